theorem dX0_init_0 : decode cX0_init 0 = .ok (.aload_n 0, 1) := by decide +kernel
theorem dX0_init_1 : decode cX0_init 1 = .ok (.invokespecial 3, 3) := by decide +kernel
theorem dX0_init_4 : decode cX0_init 4 = .ok (.aload_n 0, 1) := by decide +kernel
theorem dX0_init_5 : decode cX0_init 5 = .ok (.aload_n 1, 1) := by decide +kernel
theorem dX0_init_6 : decode cX0_init 6 = .ok (.putfield 9, 3) := by decide +kernel
theorem dX0_init_9 : decode cX0_init 9 = .ok (.aload_n 0, 1) := by decide +kernel
theorem dX0_init_10 : decode cX0_init 10 = .ok (.aload_n 2, 1) := by decide +kernel
theorem dX0_init_11 : decode cX0_init 11 = .ok (.putfield 15, 3) := by decide +kernel
theorem dX0_init_14 : decode cX0_init 14 = .ok (.return_, 1) := by decide +kernel
theorem dX0_endOrUnknownName_0 : decode cX0_endOrUnknownName 0 = .ok (.iload_n 1, 1) := by decide +kernel
theorem dX0_endOrUnknownName_1 : decode cX0_endOrUnknownName 1 = .ok (.istore_n 2, 1) := by decide +kernel
theorem dX0_endOrUnknownName_2 : decode cX0_endOrUnknownName 2 = .ok (.iconst 0, 1) := by decide +kernel
theorem dX0_endOrUnknownName_3 : decode cX0_endOrUnknownName 3 = .ok (.istore_n 3, 1) := by decide +kernel
theorem dX0_endOrUnknownName_4 : decode cX0_endOrUnknownName 4 = .ok (.iload_n 3, 1) := by decide +kernel
theorem dX0_endOrUnknownName_5 : decode cX0_endOrUnknownName 5 = .ok (.bipush 30, 2) := by decide +kernel
theorem dX0_endOrUnknownName_7 : decode cX0_endOrUnknownName 7 = .ok (.if_icmp .ge 20, 3) := by decide +kernel
theorem dX0_endOrUnknownName_10 : decode cX0_endOrUnknownName 10 = .ok (.aload_n 0, 1) := by decide +kernel
theorem dX0_endOrUnknownName_11 : decode cX0_endOrUnknownName 11 = .ok (.iload_n 2, 1) := by decide +kernel
theorem dX0_endOrUnknownName_12 : decode cX0_endOrUnknownName 12 = .ok (.invokevirtual 19, 3) := by decide +kernel
theorem dX0_endOrUnknownName_15 : decode cX0_endOrUnknownName 15 = .ok (.ifCond .eq 12, 3) := by decide +kernel
theorem dX0_endOrUnknownName_18 : decode cX0_endOrUnknownName 18 = .ok (.iinc 2 1, 3) := by decide +kernel
theorem dX0_endOrUnknownName_21 : decode cX0_endOrUnknownName 21 = .ok (.iinc 3 1, 3) := by decide +kernel
theorem dX0_endOrUnknownName_24 : decode cX0_endOrUnknownName 24 = .ok (.goto (-20), 3) := by decide +kernel
theorem dX0_endOrUnknownName_27 : decode cX0_endOrUnknownName 27 = .ok (.iload_n 2, 1) := by decide +kernel
theorem dX0_endOrUnknownName_28 : decode cX0_endOrUnknownName 28 = .ok (.ireturn, 1) := by decide +kernel
theorem dX0_suiting_0 : decode cX0_suiting 0 = .ok (.aload_n 0, 1) := by decide +kernel
theorem dX0_suiting_1 : decode cX0_suiting 1 = .ok (.iload_n 1, 1) := by decide +kernel
theorem dX0_suiting_2 : decode cX0_suiting 2 = .ok (.putfield 23, 3) := by decide +kernel
theorem dX0_suiting_5 : decode cX0_suiting 5 = .ok (.aload_n 0, 1) := by decide +kernel
theorem dX0_suiting_6 : decode cX0_suiting 6 = .ok (.iload_n 2, 1) := by decide +kernel
theorem dX0_suiting_7 : decode cX0_suiting 7 = .ok (.putfield 27, 3) := by decide +kernel
theorem dX0_suiting_10 : decode cX0_suiting 10 = .ok (.aload_n 0, 1) := by decide +kernel
theorem dX0_suiting_11 : decode cX0_suiting 11 = .ok (.iconst 0, 1) := by decide +kernel
theorem dX0_suiting_12 : decode cX0_suiting 12 = .ok (.invokevirtual 30, 3) := by decide +kernel
theorem dX0_suiting_15 : decode cX0_suiting 15 = .ok (.ireturn, 1) := by decide +kernel
theorem dX0_isInside_0 : decode cX0_isInside 0 = .ok (.aload_n 0, 1) := by decide +kernel
theorem dX0_isInside_1 : decode cX0_isInside 1 = .ok (.getfield 9, 3) := by decide +kernel
theorem dX0_isInside_4 : decode cX0_isInside 4 = .ok (.iload_n 1, 1) := by decide +kernel
theorem dX0_isInside_5 : decode cX0_isInside 5 = .ok (.invokevirtual 34, 3) := by decide +kernel
theorem dX0_isInside_8 : decode cX0_isInside 8 = .ok (.tableswitch 103 13 22 #[101, 101, 101, 103, 103, 103, 103, 101, 101, 56], 56) := by decide +kernel
theorem dX0_isInside_64 : decode cX0_isInside 64 = .ok (.aload_n 0, 1) := by decide +kernel
theorem dX0_isInside_65 : decode cX0_isInside 65 = .ok (.getfield 9, 3) := by decide +kernel
theorem dX0_isInside_68 : decode cX0_isInside 68 = .ok (.iload_n 1, 1) := by decide +kernel
theorem dX0_isInside_69 : decode cX0_isInside 69 = .ok (.invokevirtual 39, 3) := by decide +kernel
theorem dX0_isInside_72 : decode cX0_isInside 72 = .ok (.lstore_n 2, 1) := by decide +kernel
theorem dX0_isInside_73 : decode cX0_isInside 73 = .ok (.aload_n 0, 1) := by decide +kernel
theorem dX0_isInside_74 : decode cX0_isInside 74 = .ok (.getfield 15, 3) := by decide +kernel
theorem dX0_isInside_77 : decode cX0_isInside 77 = .ok (.getfield 43, 3) := by decide +kernel
theorem dX0_isInside_80 : decode cX0_isInside 80 = .ok (.lload_n 2, 1) := by decide +kernel
theorem dX0_isInside_81 : decode cX0_isInside 81 = .ok (.invokevirtual 49, 3) := by decide +kernel
theorem dX0_isInside_84 : decode cX0_isInside 84 = .ok (.iconst (-1), 1) := by decide +kernel
theorem dX0_isInside_85 : decode cX0_isInside 85 = .ok (.if_icmp .ne 18, 3) := by decide +kernel
theorem dX0_isInside_88 : decode cX0_isInside 88 = .ok (.aload_n 0, 1) := by decide +kernel
theorem dX0_isInside_89 : decode cX0_isInside 89 = .ok (.getfield 15, 3) := by decide +kernel
theorem dX0_isInside_92 : decode cX0_isInside 92 = .ok (.getfield 55, 3) := by decide +kernel
theorem dX0_isInside_95 : decode cX0_isInside 95 = .ok (.lload_n 2, 1) := by decide +kernel
theorem dX0_isInside_96 : decode cX0_isInside 96 = .ok (.invokevirtual 49, 3) := by decide +kernel
theorem dX0_isInside_99 : decode cX0_isInside 99 = .ok (.iconst (-1), 1) := by decide +kernel
theorem dX0_isInside_100 : decode cX0_isInside 100 = .ok (.if_icmp .eq 7, 3) := by decide +kernel
theorem dX0_isInside_103 : decode cX0_isInside 103 = .ok (.iconst 1, 1) := by decide +kernel
theorem dX0_isInside_104 : decode cX0_isInside 104 = .ok (.goto 4, 3) := by decide +kernel
theorem dX0_isInside_107 : decode cX0_isInside 107 = .ok (.iconst 0, 1) := by decide +kernel
theorem dX0_isInside_108 : decode cX0_isInside 108 = .ok (.ireturn, 1) := by decide +kernel
theorem dX0_isInside_109 : decode cX0_isInside 109 = .ok (.iconst 1, 1) := by decide +kernel
theorem dX0_isInside_110 : decode cX0_isInside 110 = .ok (.ireturn, 1) := by decide +kernel
theorem dX0_isInside_111 : decode cX0_isInside 111 = .ok (.iconst 0, 1) := by decide +kernel
theorem dX0_isInside_112 : decode cX0_isInside 112 = .ok (.ireturn, 1) := by decide +kernel
theorem dX0_expression_0 : decode cX0_expression 0 = .ok (.iconst 0, 1) := by decide +kernel
theorem dX0_expression_1 : decode cX0_expression 1 = .ok (.istore_n 2, 1) := by decide +kernel
theorem dX0_expression_2 : decode cX0_expression 2 = .ok (.aload_n 0, 1) := by decide +kernel
theorem dX0_expression_3 : decode cX0_expression 3 = .ok (.iload_n 1, 1) := by decide +kernel
theorem dX0_expression_4 : decode cX0_expression 4 = .ok (.invokevirtual 58, 3) := by decide +kernel
theorem dX0_expression_7 : decode cX0_expression 7 = .ok (.istore_n 3, 1) := by decide +kernel
theorem dX0_expression_8 : decode cX0_expression 8 = .ok (.iconst 0, 1) := by decide +kernel
theorem dX0_expression_9 : decode cX0_expression 9 = .ok (.istore 4, 2) := by decide +kernel
theorem dX0_expression_11 : decode cX0_expression 11 = .ok (.iload 4, 2) := by decide +kernel
theorem dX0_expression_13 : decode cX0_expression 13 = .ok (.bipush 30, 2) := by decide +kernel
theorem dX0_expression_15 : decode cX0_expression 15 = .ok (.if_icmp .ge 75, 3) := by decide +kernel
theorem dX0_expression_18 : decode cX0_expression 18 = .ok (.aload_n 0, 1) := by decide +kernel
theorem dX0_expression_19 : decode cX0_expression 19 = .ok (.invokevirtual 61, 3) := by decide +kernel
theorem dX0_expression_22 : decode cX0_expression 22 = .ok (.ifCond .eq 68, 3) := by decide +kernel
theorem dX0_expression_25 : decode cX0_expression 25 = .ok (.aload_n 0, 1) := by decide +kernel
theorem dX0_expression_26 : decode cX0_expression 26 = .ok (.getfield 9, 3) := by decide +kernel
theorem dX0_expression_29 : decode cX0_expression 29 = .ok (.aload_n 0, 1) := by decide +kernel
theorem dX0_expression_30 : decode cX0_expression 30 = .ok (.getfield 23, 3) := by decide +kernel
theorem dX0_expression_33 : decode cX0_expression 33 = .ok (.invokevirtual 34, 3) := by decide +kernel
theorem dX0_expression_36 : decode cX0_expression 36 = .ok (.bipush 14, 2) := by decide +kernel
theorem dX0_expression_38 : decode cX0_expression 38 = .ok (.if_icmp .ne 7, 3) := by decide +kernel
theorem dX0_expression_41 : decode cX0_expression 41 = .ok (.iconst 1, 1) := by decide +kernel
theorem dX0_expression_42 : decode cX0_expression 42 = .ok (.goto 4, 3) := by decide +kernel
theorem dX0_expression_45 : decode cX0_expression 45 = .ok (.iconst 0, 1) := by decide +kernel
theorem dX0_expression_46 : decode cX0_expression 46 = .ok (.istore 5, 2) := by decide +kernel
theorem dX0_expression_48 : decode cX0_expression 48 = .ok (.aload_n 0, 1) := by decide +kernel
theorem dX0_expression_49 : decode cX0_expression 49 = .ok (.dup, 1) := by decide +kernel
theorem dX0_expression_50 : decode cX0_expression 50 = .ok (.getfield 23, 3) := by decide +kernel
theorem dX0_expression_53 : decode cX0_expression 53 = .ok (.iconst 1, 1) := by decide +kernel
theorem dX0_expression_54 : decode cX0_expression 54 = .ok (.iadd, 1) := by decide +kernel
theorem dX0_expression_55 : decode cX0_expression 55 = .ok (.putfield 23, 3) := by decide +kernel
theorem dX0_expression_58 : decode cX0_expression 58 = .ok (.iload 5, 2) := by decide +kernel
theorem dX0_expression_60 : decode cX0_expression 60 = .ok (.ifCond .eq 16, 3) := by decide +kernel
theorem dX0_expression_63 : decode cX0_expression 63 = .ok (.iload_n 2, 1) := by decide +kernel
theorem dX0_expression_64 : decode cX0_expression 64 = .ok (.iload_n 3, 1) := by decide +kernel
theorem dX0_expression_65 : decode cX0_expression 65 = .ok (.ior, 1) := by decide +kernel
theorem dX0_expression_66 : decode cX0_expression 66 = .ok (.istore_n 2, 1) := by decide +kernel
theorem dX0_expression_67 : decode cX0_expression 67 = .ok (.aload_n 0, 1) := by decide +kernel
theorem dX0_expression_68 : decode cX0_expression 68 = .ok (.iload_n 1, 1) := by decide +kernel
theorem dX0_expression_69 : decode cX0_expression 69 = .ok (.invokevirtual 58, 3) := by decide +kernel
theorem dX0_expression_72 : decode cX0_expression 72 = .ok (.istore_n 3, 1) := by decide +kernel
theorem dX0_expression_73 : decode cX0_expression 73 = .ok (.goto 11, 3) := by decide +kernel
theorem dX0_expression_76 : decode cX0_expression 76 = .ok (.iload_n 3, 1) := by decide +kernel
theorem dX0_expression_77 : decode cX0_expression 77 = .ok (.aload_n 0, 1) := by decide +kernel
theorem dX0_expression_78 : decode cX0_expression 78 = .ok (.iload_n 1, 1) := by decide +kernel
theorem dX0_expression_79 : decode cX0_expression 79 = .ok (.invokevirtual 58, 3) := by decide +kernel
theorem dX0_expression_82 : decode cX0_expression 82 = .ok (.iand, 1) := by decide +kernel
theorem dX0_expression_83 : decode cX0_expression 83 = .ok (.istore_n 3, 1) := by decide +kernel
theorem dX0_expression_84 : decode cX0_expression 84 = .ok (.iinc 4 1, 3) := by decide +kernel
theorem dX0_expression_87 : decode cX0_expression 87 = .ok (.goto (-76), 3) := by decide +kernel
theorem dX0_expression_90 : decode cX0_expression 90 = .ok (.iload_n 2, 1) := by decide +kernel
theorem dX0_expression_91 : decode cX0_expression 91 = .ok (.iload_n 3, 1) := by decide +kernel
theorem dX0_expression_92 : decode cX0_expression 92 = .ok (.ior, 1) := by decide +kernel
theorem dX0_expression_93 : decode cX0_expression 93 = .ok (.ireturn, 1) := by decide +kernel
theorem dX0_isJoined_0 : decode cX0_isJoined 0 = .ok (.aload_n 0, 1) := by decide +kernel
theorem dX0_isJoined_1 : decode cX0_isJoined 1 = .ok (.getfield 9, 3) := by decide +kernel
theorem dX0_isJoined_4 : decode cX0_isJoined 4 = .ok (.aload_n 0, 1) := by decide +kernel
theorem dX0_isJoined_5 : decode cX0_isJoined 5 = .ok (.getfield 23, 3) := by decide +kernel
theorem dX0_isJoined_8 : decode cX0_isJoined 8 = .ok (.invokevirtual 34, 3) := by decide +kernel
theorem dX0_isJoined_11 : decode cX0_isJoined 11 = .ok (.bipush 14, 2) := by decide +kernel
theorem dX0_isJoined_13 : decode cX0_isJoined 13 = .ok (.if_icmp .eq 19, 3) := by decide +kernel
theorem dX0_isJoined_16 : decode cX0_isJoined 16 = .ok (.aload_n 0, 1) := by decide +kernel
theorem dX0_isJoined_17 : decode cX0_isJoined 17 = .ok (.getfield 9, 3) := by decide +kernel
theorem dX0_isJoined_20 : decode cX0_isJoined 20 = .ok (.aload_n 0, 1) := by decide +kernel
theorem dX0_isJoined_21 : decode cX0_isJoined 21 = .ok (.getfield 23, 3) := by decide +kernel
theorem dX0_isJoined_24 : decode cX0_isJoined 24 = .ok (.invokevirtual 34, 3) := by decide +kernel
theorem dX0_isJoined_27 : decode cX0_isJoined 27 = .ok (.bipush 13, 2) := by decide +kernel
theorem dX0_isJoined_29 : decode cX0_isJoined 29 = .ok (.if_icmp .ne 7, 3) := by decide +kernel
theorem dX0_isJoined_32 : decode cX0_isJoined 32 = .ok (.iconst 1, 1) := by decide +kernel
theorem dX0_isJoined_33 : decode cX0_isJoined 33 = .ok (.goto 4, 3) := by decide +kernel
theorem dX0_isJoined_36 : decode cX0_isJoined 36 = .ok (.iconst 0, 1) := by decide +kernel
theorem dX0_isJoined_37 : decode cX0_isJoined 37 = .ok (.ireturn, 1) := by decide +kernel
theorem dX0_one_0 : decode cX0_one 0 = .ok (.aload_n 0, 1) := by decide +kernel
theorem dX0_one_1 : decode cX0_one 1 = .ok (.getfield 9, 3) := by decide +kernel
theorem dX0_one_4 : decode cX0_one 4 = .ok (.aload_n 0, 1) := by decide +kernel
theorem dX0_one_5 : decode cX0_one 5 = .ok (.getfield 23, 3) := by decide +kernel
theorem dX0_one_8 : decode cX0_one 8 = .ok (.invokevirtual 34, 3) := by decide +kernel
theorem dX0_one_11 : decode cX0_one 11 = .ok (.istore_n 2, 1) := by decide +kernel
theorem dX0_one_12 : decode cX0_one 12 = .ok (.aload_n 0, 1) := by decide +kernel
theorem dX0_one_13 : decode cX0_one 13 = .ok (.getfield 9, 3) := by decide +kernel
theorem dX0_one_16 : decode cX0_one 16 = .ok (.aload_n 0, 1) := by decide +kernel
theorem dX0_one_17 : decode cX0_one 17 = .ok (.getfield 23, 3) := by decide +kernel
theorem dX0_one_20 : decode cX0_one 20 = .ok (.invokevirtual 39, 3) := by decide +kernel
theorem dX0_one_23 : decode cX0_one 23 = .ok (.lstore_n 3, 1) := by decide +kernel
theorem dX0_one_24 : decode cX0_one 24 = .ok (.aload_n 0, 1) := by decide +kernel
theorem dX0_one_25 : decode cX0_one 25 = .ok (.dup, 1) := by decide +kernel
theorem dX0_one_26 : decode cX0_one 26 = .ok (.getfield 23, 3) := by decide +kernel
theorem dX0_one_29 : decode cX0_one 29 = .ok (.iconst 1, 1) := by decide +kernel
theorem dX0_one_30 : decode cX0_one 30 = .ok (.iadd, 1) := by decide +kernel
theorem dX0_one_31 : decode cX0_one 31 = .ok (.putfield 23, 3) := by decide +kernel
theorem dX0_one_34 : decode cX0_one 34 = .ok (.iload_n 2, 1) := by decide +kernel
theorem dX0_one_35 : decode cX0_one 35 = .ok (.bipush 22, 2) := by decide +kernel
theorem dX0_one_37 : decode cX0_one 37 = .ok (.if_icmp .ne 9, 3) := by decide +kernel
theorem dX0_one_40 : decode cX0_one 40 = .ok (.aload_n 0, 1) := by decide +kernel
theorem dX0_one_41 : decode cX0_one 41 = .ok (.lload_n 3, 1) := by decide +kernel
theorem dX0_one_42 : decode cX0_one 42 = .ok (.invokevirtual 65, 3) := by decide +kernel
theorem dX0_one_45 : decode cX0_one 45 = .ok (.ireturn, 1) := by decide +kernel
theorem dX0_one_46 : decode cX0_one 46 = .ok (.iload_n 1, 1) := by decide +kernel
theorem dX0_one_47 : decode cX0_one 47 = .ok (.bipush 8, 2) := by decide +kernel
theorem dX0_one_49 : decode cX0_one 49 = .ok (.if_icmp .lt 5, 3) := by decide +kernel
theorem dX0_one_52 : decode cX0_one 52 = .ok (.iconst 0, 1) := by decide +kernel
theorem dX0_one_53 : decode cX0_one 53 = .ok (.ireturn, 1) := by decide +kernel
theorem dX0_one_54 : decode cX0_one 54 = .ok (.iload_n 2, 1) := by decide +kernel
theorem dX0_one_55 : decode cX0_one 55 = .ok (.bipush 15, 2) := by decide +kernel
theorem dX0_one_57 : decode cX0_one 57 = .ok (.if_icmp .ne 28, 3) := by decide +kernel
theorem dX0_one_60 : decode cX0_one 60 = .ok (.iconst 1, 1) := by decide +kernel
theorem dX0_one_61 : decode cX0_one 61 = .ok (.aload_n 0, 1) := by decide +kernel
theorem dX0_one_62 : decode cX0_one 62 = .ok (.getfield 15, 3) := by decide +kernel
theorem dX0_one_65 : decode cX0_one 65 = .ok (.getfield 43, 3) := by decide +kernel
theorem dX0_one_68 : decode cX0_one 68 = .ok (.getfield 68, 3) := by decide +kernel
theorem dX0_one_71 : decode cX0_one 71 = .ok (.ishl, 1) := by decide +kernel
theorem dX0_one_72 : decode cX0_one 72 = .ok (.iconst 1, 1) := by decide +kernel
theorem dX0_one_73 : decode cX0_one 73 = .ok (.isub, 1) := by decide +kernel
theorem dX0_one_74 : decode cX0_one 74 = .ok (.aload_n 0, 1) := by decide +kernel
theorem dX0_one_75 : decode cX0_one 75 = .ok (.iload_n 1, 1) := by decide +kernel
theorem dX0_one_76 : decode cX0_one 76 = .ok (.iconst 1, 1) := by decide +kernel
theorem dX0_one_77 : decode cX0_one 77 = .ok (.iadd, 1) := by decide +kernel
theorem dX0_one_78 : decode cX0_one 78 = .ok (.invokevirtual 58, 3) := by decide +kernel
theorem dX0_one_81 : decode cX0_one 81 = .ok (.iconst (-1), 1) := by decide +kernel
theorem dX0_one_82 : decode cX0_one 82 = .ok (.ixor, 1) := by decide +kernel
theorem dX0_one_83 : decode cX0_one 83 = .ok (.iand, 1) := by decide +kernel
theorem dX0_one_84 : decode cX0_one 84 = .ok (.ireturn, 1) := by decide +kernel
theorem dX0_one_85 : decode cX0_one 85 = .ok (.aload_n 0, 1) := by decide +kernel
theorem dX0_one_86 : decode cX0_one 86 = .ok (.iload_n 1, 1) := by decide +kernel
theorem dX0_one_87 : decode cX0_one 87 = .ok (.iconst 1, 1) := by decide +kernel
theorem dX0_one_88 : decode cX0_one 88 = .ok (.iadd, 1) := by decide +kernel
theorem dX0_one_89 : decode cX0_one 89 = .ok (.invokevirtual 30, 3) := by decide +kernel
theorem dX0_one_92 : decode cX0_one 92 = .ok (.istore 5, 2) := by decide +kernel
theorem dX0_one_94 : decode cX0_one 94 = .ok (.aload_n 0, 1) := by decide +kernel
theorem dX0_one_95 : decode cX0_one 95 = .ok (.dup, 1) := by decide +kernel
theorem dX0_one_96 : decode cX0_one 96 = .ok (.getfield 23, 3) := by decide +kernel
theorem dX0_one_99 : decode cX0_one 99 = .ok (.iconst 1, 1) := by decide +kernel
theorem dX0_one_100 : decode cX0_one 100 = .ok (.iadd, 1) := by decide +kernel
theorem dX0_one_101 : decode cX0_one 101 = .ok (.putfield 23, 3) := by decide +kernel
theorem dX0_one_104 : decode cX0_one 104 = .ok (.iload 5, 2) := by decide +kernel
theorem dX0_one_106 : decode cX0_one 106 = .ok (.ireturn, 1) := by decide +kernel
theorem dX0_dishesNamed_0 : decode cX0_dishesNamed 0 = .ok (.aload_n 0, 1) := by decide +kernel
theorem dX0_dishesNamed_1 : decode cX0_dishesNamed 1 = .ok (.getfield 15, 3) := by decide +kernel
theorem dX0_dishesNamed_4 : decode cX0_dishesNamed 4 = .ok (.getfield 43, 3) := by decide +kernel
theorem dX0_dishesNamed_7 : decode cX0_dishesNamed 7 = .ok (.lload_n 1, 1) := by decide +kernel
theorem dX0_dishesNamed_8 : decode cX0_dishesNamed 8 = .ok (.invokevirtual 49, 3) := by decide +kernel
theorem dX0_dishesNamed_11 : decode cX0_dishesNamed 11 = .ok (.istore_n 3, 1) := by decide +kernel
theorem dX0_dishesNamed_12 : decode cX0_dishesNamed 12 = .ok (.iload_n 3, 1) := by decide +kernel
theorem dX0_dishesNamed_13 : decode cX0_dishesNamed 13 = .ok (.iconst (-1), 1) := by decide +kernel
theorem dX0_dishesNamed_14 : decode cX0_dishesNamed 14 = .ok (.if_icmp .eq 15, 3) := by decide +kernel
theorem dX0_dishesNamed_17 : decode cX0_dishesNamed 17 = .ok (.iload_n 3, 1) := by decide +kernel
theorem dX0_dishesNamed_18 : decode cX0_dishesNamed 18 = .ok (.aload_n 0, 1) := by decide +kernel
theorem dX0_dishesNamed_19 : decode cX0_dishesNamed 19 = .ok (.getfield 27, 3) := by decide +kernel
theorem dX0_dishesNamed_22 : decode cX0_dishesNamed 22 = .ok (.if_icmp .ge 7, 3) := by decide +kernel
theorem dX0_dishesNamed_25 : decode cX0_dishesNamed 25 = .ok (.iconst 1, 1) := by decide +kernel
theorem dX0_dishesNamed_26 : decode cX0_dishesNamed 26 = .ok (.iload_n 3, 1) := by decide +kernel
theorem dX0_dishesNamed_27 : decode cX0_dishesNamed 27 = .ok (.ishl, 1) := by decide +kernel
theorem dX0_dishesNamed_28 : decode cX0_dishesNamed 28 = .ok (.ireturn, 1) := by decide +kernel
theorem dX0_dishesNamed_29 : decode cX0_dishesNamed 29 = .ok (.aload_n 0, 1) := by decide +kernel
theorem dX0_dishesNamed_30 : decode cX0_dishesNamed 30 = .ok (.getfield 15, 3) := by decide +kernel
theorem dX0_dishesNamed_33 : decode cX0_dishesNamed 33 = .ok (.aload_n 0, 1) := by decide +kernel
theorem dX0_dishesNamed_34 : decode cX0_dishesNamed 34 = .ok (.getfield 15, 3) := by decide +kernel
theorem dX0_dishesNamed_37 : decode cX0_dishesNamed 37 = .ok (.getfield 55, 3) := by decide +kernel
theorem dX0_dishesNamed_40 : decode cX0_dishesNamed 40 = .ok (.lload_n 1, 1) := by decide +kernel
theorem dX0_dishesNamed_41 : decode cX0_dishesNamed 41 = .ok (.invokevirtual 49, 3) := by decide +kernel
theorem dX0_dishesNamed_44 : decode cX0_dishesNamed 44 = .ok (.invokevirtual 71, 3) := by decide +kernel
theorem dX0_dishesNamed_47 : decode cX0_dishesNamed 47 = .ok (.ireturn, 1) := by decide +kernel
theorem dX1_init_0 : decode cX1_init 0 = .ok (.aload_n 0, 1) := by decide +kernel
theorem dX1_init_1 : decode cX1_init 1 = .ok (.invokespecial 3, 3) := by decide +kernel
theorem dX1_init_4 : decode cX1_init 4 = .ok (.aload_n 0, 1) := by decide +kernel
theorem dX1_init_5 : decode cX1_init 5 = .ok (.aload_n 1, 1) := by decide +kernel
theorem dX1_init_6 : decode cX1_init 6 = .ok (.putfield 9, 3) := by decide +kernel
theorem dX1_init_9 : decode cX1_init 9 = .ok (.return_, 1) := by decide +kernel
theorem dX1_errorInProgram_0 : decode cX1_errorInProgram 0 = .ok (.aload_n 0, 1) := by decide +kernel
theorem dX1_errorInProgram_1 : decode cX1_errorInProgram 1 = .ok (.iconst 0, 1) := by decide +kernel
theorem dX1_errorInProgram_2 : decode cX1_errorInProgram 2 = .ok (.putfield 15, 3) := by decide +kernel
theorem dX1_errorInProgram_5 : decode cX1_errorInProgram 5 = .ok (.iconst 1, 1) := by decide +kernel
theorem dX1_errorInProgram_6 : decode cX1_errorInProgram 6 = .ok (.istore_n 1, 1) := by decide +kernel
theorem dX1_errorInProgram_7 : decode cX1_errorInProgram 7 = .ok (.iconst 0, 1) := by decide +kernel
theorem dX1_errorInProgram_8 : decode cX1_errorInProgram 8 = .ok (.istore_n 2, 1) := by decide +kernel
theorem dX1_errorInProgram_9 : decode cX1_errorInProgram 9 = .ok (.iload_n 2, 1) := by decide +kernel
theorem dX1_errorInProgram_10 : decode cX1_errorInProgram 10 = .ok (.sipush 1500, 3) := by decide +kernel
theorem dX1_errorInProgram_13 : decode cX1_errorInProgram 13 = .ok (.if_icmp .ge 115, 3) := by decide +kernel
theorem dX1_errorInProgram_16 : decode cX1_errorInProgram 16 = .ok (.iload_n 1, 1) := by decide +kernel
theorem dX1_errorInProgram_17 : decode cX1_errorInProgram 17 = .ok (.ifCond .eq 111, 3) := by decide +kernel
theorem dX1_errorInProgram_20 : decode cX1_errorInProgram 20 = .ok (.iload_n 2, 1) := by decide +kernel
theorem dX1_errorInProgram_21 : decode cX1_errorInProgram 21 = .ok (.ifCond .eq 12, 3) := by decide +kernel
theorem dX1_errorInProgram_24 : decode cX1_errorInProgram 24 = .ok (.aload_n 0, 1) := by decide +kernel
theorem dX1_errorInProgram_25 : decode cX1_errorInProgram 25 = .ok (.bipush 25, 2) := by decide +kernel
theorem dX1_errorInProgram_27 : decode cX1_errorInProgram 27 = .ok (.invokevirtual 23, 3) := by decide +kernel
theorem dX1_errorInProgram_30 : decode cX1_errorInProgram 30 = .ok (.ifCond .ne 98, 3) := by decide +kernel
theorem dX1_errorInProgram_33 : decode cX1_errorInProgram 33 = .ok (.aload_n 0, 1) := by decide +kernel
theorem dX1_errorInProgram_34 : decode cX1_errorInProgram 34 = .ok (.getfield 9, 3) := by decide +kernel
theorem dX1_errorInProgram_37 : decode cX1_errorInProgram 37 = .ok (.aload_n 0, 1) := by decide +kernel
theorem dX1_errorInProgram_38 : decode cX1_errorInProgram 38 = .ok (.getfield 15, 3) := by decide +kernel
theorem dX1_errorInProgram_41 : decode cX1_errorInProgram 41 = .ok (.invokevirtual 27, 3) := by decide +kernel
theorem dX1_errorInProgram_44 : decode cX1_errorInProgram 44 = .ok (.tableswitch 76 0 6 #[44, 52, 76, 76, 76, 60, 68], 44) := by decide +kernel
theorem dX1_errorInProgram_88 : decode cX1_errorInProgram 88 = .ok (.aload_n 0, 1) := by decide +kernel
theorem dX1_errorInProgram_89 : decode cX1_errorInProgram 89 = .ok (.invokevirtual 31, 3) := by decide +kernel
theorem dX1_errorInProgram_92 : decode cX1_errorInProgram 92 = .ok (.istore_n 1, 1) := by decide +kernel
theorem dX1_errorInProgram_93 : decode cX1_errorInProgram 93 = .ok (.goto 29, 3) := by decide +kernel
theorem dX1_errorInProgram_96 : decode cX1_errorInProgram 96 = .ok (.aload_n 0, 1) := by decide +kernel
theorem dX1_errorInProgram_97 : decode cX1_errorInProgram 97 = .ok (.invokevirtual 35, 3) := by decide +kernel
theorem dX1_errorInProgram_100 : decode cX1_errorInProgram 100 = .ok (.istore_n 1, 1) := by decide +kernel
theorem dX1_errorInProgram_101 : decode cX1_errorInProgram 101 = .ok (.goto 21, 3) := by decide +kernel
theorem dX1_errorInProgram_104 : decode cX1_errorInProgram 104 = .ok (.aload_n 0, 1) := by decide +kernel
theorem dX1_errorInProgram_105 : decode cX1_errorInProgram 105 = .ok (.invokevirtual 38, 3) := by decide +kernel
theorem dX1_errorInProgram_108 : decode cX1_errorInProgram 108 = .ok (.istore_n 1, 1) := by decide +kernel
theorem dX1_errorInProgram_109 : decode cX1_errorInProgram 109 = .ok (.goto 13, 3) := by decide +kernel
theorem dX1_errorInProgram_112 : decode cX1_errorInProgram 112 = .ok (.aload_n 0, 1) := by decide +kernel
theorem dX1_errorInProgram_113 : decode cX1_errorInProgram 113 = .ok (.invokevirtual 41, 3) := by decide +kernel
theorem dX1_errorInProgram_116 : decode cX1_errorInProgram 116 = .ok (.istore_n 1, 1) := by decide +kernel
theorem dX1_errorInProgram_117 : decode cX1_errorInProgram 117 = .ok (.goto 5, 3) := by decide +kernel
theorem dX1_errorInProgram_120 : decode cX1_errorInProgram 120 = .ok (.iconst 0, 1) := by decide +kernel
theorem dX1_errorInProgram_121 : decode cX1_errorInProgram 121 = .ok (.istore_n 1, 1) := by decide +kernel
theorem dX1_errorInProgram_122 : decode cX1_errorInProgram 122 = .ok (.iinc 2 1, 3) := by decide +kernel
theorem dX1_errorInProgram_125 : decode cX1_errorInProgram 125 = .ok (.goto (-116), 3) := by decide +kernel
theorem dX1_errorInProgram_128 : decode cX1_errorInProgram 128 = .ok (.iload_n 1, 1) := by decide +kernel
theorem dX1_errorInProgram_129 : decode cX1_errorInProgram 129 = .ok (.ifCond .eq 7, 3) := by decide +kernel
theorem dX1_errorInProgram_132 : decode cX1_errorInProgram 132 = .ok (.iconst (-1), 1) := by decide +kernel
theorem dX1_errorInProgram_133 : decode cX1_errorInProgram 133 = .ok (.goto 14, 3) := by decide +kernel
theorem dX1_errorInProgram_136 : decode cX1_errorInProgram 136 = .ok (.aload_n 0, 1) := by decide +kernel
theorem dX1_errorInProgram_137 : decode cX1_errorInProgram 137 = .ok (.getfield 9, 3) := by decide +kernel
theorem dX1_errorInProgram_140 : decode cX1_errorInProgram 140 = .ok (.aload_n 0, 1) := by decide +kernel
theorem dX1_errorInProgram_141 : decode cX1_errorInProgram 141 = .ok (.getfield 15, 3) := by decide +kernel
theorem dX1_errorInProgram_144 : decode cX1_errorInProgram 144 = .ok (.invokevirtual 44, 3) := by decide +kernel
theorem dX1_errorInProgram_147 : decode cX1_errorInProgram 147 = .ok (.ireturn, 1) := by decide +kernel
theorem dX1_readFood_0 : decode cX1_readFood 0 = .ok (.aload_n 0, 1) := by decide +kernel
theorem dX1_readFood_1 : decode cX1_readFood 1 = .ok (.iconst 0, 1) := by decide +kernel
theorem dX1_readFood_2 : decode cX1_readFood 2 = .ok (.invokevirtual 50, 3) := by decide +kernel
theorem dX1_readFood_5 : decode cX1_readFood 5 = .ok (.ifCond .eq 25, 3) := by decide +kernel
theorem dX1_readFood_8 : decode cX1_readFood 8 = .ok (.aload_n 0, 1) := by decide +kernel
theorem dX1_readFood_9 : decode cX1_readFood 9 = .ok (.bipush 22, 2) := by decide +kernel
theorem dX1_readFood_11 : decode cX1_readFood 11 = .ok (.invokevirtual 50, 3) := by decide +kernel
theorem dX1_readFood_14 : decode cX1_readFood 14 = .ok (.ifCond .eq 16, 3) := by decide +kernel
theorem dX1_readFood_17 : decode cX1_readFood 17 = .ok (.aload_n 0, 1) := by decide +kernel
theorem dX1_readFood_18 : decode cX1_readFood 18 = .ok (.bipush 23, 2) := by decide +kernel
theorem dX1_readFood_20 : decode cX1_readFood 20 = .ok (.invokevirtual 50, 3) := by decide +kernel
theorem dX1_readFood_23 : decode cX1_readFood 23 = .ok (.ifCond .eq 7, 3) := by decide +kernel
theorem dX1_readFood_26 : decode cX1_readFood 26 = .ok (.iconst 1, 1) := by decide +kernel
theorem dX1_readFood_27 : decode cX1_readFood 27 = .ok (.goto 4, 3) := by decide +kernel
theorem dX1_readFood_30 : decode cX1_readFood 30 = .ok (.iconst 0, 1) := by decide +kernel
theorem dX1_readFood_31 : decode cX1_readFood 31 = .ok (.istore_n 1, 1) := by decide +kernel
theorem dX1_readFood_32 : decode cX1_readFood 32 = .ok (.iload_n 1, 1) := by decide +kernel
theorem dX1_readFood_33 : decode cX1_readFood 33 = .ok (.ifCond .eq 36, 3) := by decide +kernel
theorem dX1_readFood_36 : decode cX1_readFood 36 = .ok (.aload_n 0, 1) := by decide +kernel
theorem dX1_readFood_37 : decode cX1_readFood 37 = .ok (.bipush 16, 2) := by decide +kernel
theorem dX1_readFood_39 : decode cX1_readFood 39 = .ok (.invokevirtual 23, 3) := by decide +kernel
theorem dX1_readFood_42 : decode cX1_readFood 42 = .ok (.ifCond .eq 27, 3) := by decide +kernel
theorem dX1_readFood_45 : decode cX1_readFood 45 = .ok (.aload_n 0, 1) := by decide +kernel
theorem dX1_readFood_46 : decode cX1_readFood 46 = .ok (.bipush 16, 2) := by decide +kernel
theorem dX1_readFood_48 : decode cX1_readFood 48 = .ok (.invokevirtual 50, 3) := by decide +kernel
theorem dX1_readFood_51 : decode cX1_readFood 51 = .ok (.ifCond .eq 16, 3) := by decide +kernel
theorem dX1_readFood_54 : decode cX1_readFood 54 = .ok (.aload_n 0, 1) := by decide +kernel
theorem dX1_readFood_55 : decode cX1_readFood 55 = .ok (.bipush 23, 2) := by decide +kernel
theorem dX1_readFood_57 : decode cX1_readFood 57 = .ok (.invokevirtual 50, 3) := by decide +kernel
theorem dX1_readFood_60 : decode cX1_readFood 60 = .ok (.ifCond .eq 7, 3) := by decide +kernel
theorem dX1_readFood_63 : decode cX1_readFood 63 = .ok (.iconst 1, 1) := by decide +kernel
theorem dX1_readFood_64 : decode cX1_readFood 64 = .ok (.goto 4, 3) := by decide +kernel
theorem dX1_readFood_67 : decode cX1_readFood 67 = .ok (.iconst 0, 1) := by decide +kernel
theorem dX1_readFood_68 : decode cX1_readFood 68 = .ok (.istore_n 1, 1) := by decide +kernel
theorem dX1_readFood_69 : decode cX1_readFood 69 = .ok (.iload_n 1, 1) := by decide +kernel
theorem dX1_readFood_70 : decode cX1_readFood 70 = .ok (.ifCond .eq 23, 3) := by decide +kernel
theorem dX1_readFood_73 : decode cX1_readFood 73 = .ok (.aload_n 0, 1) := by decide +kernel
theorem dX1_readFood_74 : decode cX1_readFood 74 = .ok (.invokevirtual 53, 3) := by decide +kernel
theorem dX1_readFood_77 : decode cX1_readFood 77 = .ok (.ifCond .eq 16, 3) := by decide +kernel
theorem dX1_readFood_80 : decode cX1_readFood 80 = .ok (.aload_n 0, 1) := by decide +kernel
theorem dX1_readFood_81 : decode cX1_readFood 81 = .ok (.bipush 17, 2) := by decide +kernel
theorem dX1_readFood_83 : decode cX1_readFood 83 = .ok (.invokevirtual 50, 3) := by decide +kernel
theorem dX1_readFood_86 : decode cX1_readFood 86 = .ok (.ifCond .eq 7, 3) := by decide +kernel
theorem dX1_readFood_89 : decode cX1_readFood 89 = .ok (.iconst 1, 1) := by decide +kernel
theorem dX1_readFood_90 : decode cX1_readFood 90 = .ok (.goto 4, 3) := by decide +kernel
theorem dX1_readFood_93 : decode cX1_readFood 93 = .ok (.iconst 0, 1) := by decide +kernel
theorem dX1_readFood_94 : decode cX1_readFood 94 = .ok (.ireturn, 1) := by decide +kernel
theorem dX1_readDish_0 : decode cX1_readDish 0 = .ok (.aload_n 0, 1) := by decide +kernel
theorem dX1_readDish_1 : decode cX1_readDish 1 = .ok (.iconst 1, 1) := by decide +kernel
theorem dX1_readDish_2 : decode cX1_readDish 2 = .ok (.invokevirtual 50, 3) := by decide +kernel
theorem dX1_readDish_5 : decode cX1_readDish 5 = .ok (.ifCond .eq 49, 3) := by decide +kernel
theorem dX1_readDish_8 : decode cX1_readDish 8 = .ok (.aload_n 0, 1) := by decide +kernel
theorem dX1_readDish_9 : decode cX1_readDish 9 = .ok (.bipush 22, 2) := by decide +kernel
theorem dX1_readDish_11 : decode cX1_readDish 11 = .ok (.invokevirtual 50, 3) := by decide +kernel
theorem dX1_readDish_14 : decode cX1_readDish 14 = .ok (.ifCond .eq 40, 3) := by decide +kernel
theorem dX1_readDish_17 : decode cX1_readDish 17 = .ok (.aload_n 0, 1) := by decide +kernel
theorem dX1_readDish_18 : decode cX1_readDish 18 = .ok (.iconst 2, 1) := by decide +kernel
theorem dX1_readDish_19 : decode cX1_readDish 19 = .ok (.invokevirtual 50, 3) := by decide +kernel
theorem dX1_readDish_22 : decode cX1_readDish 22 = .ok (.ifCond .eq 32, 3) := by decide +kernel
theorem dX1_readDish_25 : decode cX1_readDish 25 = .ok (.aload_n 0, 1) := by decide +kernel
theorem dX1_readDish_26 : decode cX1_readDish 26 = .ok (.bipush 23, 2) := by decide +kernel
theorem dX1_readDish_28 : decode cX1_readDish 28 = .ok (.invokevirtual 50, 3) := by decide +kernel
theorem dX1_readDish_31 : decode cX1_readDish 31 = .ok (.ifCond .eq 23, 3) := by decide +kernel
theorem dX1_readDish_34 : decode cX1_readDish 34 = .ok (.aload_n 0, 1) := by decide +kernel
theorem dX1_readDish_35 : decode cX1_readDish 35 = .ok (.bipush 18, 2) := by decide +kernel
theorem dX1_readDish_37 : decode cX1_readDish 37 = .ok (.invokevirtual 50, 3) := by decide +kernel
theorem dX1_readDish_40 : decode cX1_readDish 40 = .ok (.ifCond .eq 14, 3) := by decide +kernel
theorem dX1_readDish_43 : decode cX1_readDish 43 = .ok (.aload_n 0, 1) := by decide +kernel
theorem dX1_readDish_44 : decode cX1_readDish 44 = .ok (.invokevirtual 56, 3) := by decide +kernel
theorem dX1_readDish_47 : decode cX1_readDish 47 = .ok (.ifCond .eq 7, 3) := by decide +kernel
theorem dX1_readDish_50 : decode cX1_readDish 50 = .ok (.iconst 1, 1) := by decide +kernel
theorem dX1_readDish_51 : decode cX1_readDish 51 = .ok (.goto 4, 3) := by decide +kernel
theorem dX1_readDish_54 : decode cX1_readDish 54 = .ok (.iconst 0, 1) := by decide +kernel
theorem dX1_readDish_55 : decode cX1_readDish 55 = .ok (.istore_n 1, 1) := by decide +kernel
theorem dX1_readDish_56 : decode cX1_readDish 56 = .ok (.iconst 0, 1) := by decide +kernel
theorem dX1_readDish_57 : decode cX1_readDish 57 = .ok (.istore_n 2, 1) := by decide +kernel
theorem dX1_readDish_58 : decode cX1_readDish 58 = .ok (.iload_n 2, 1) := by decide +kernel
theorem dX1_readDish_59 : decode cX1_readDish 59 = .ok (.sipush 1500, 3) := by decide +kernel
theorem dX1_readDish_62 : decode cX1_readDish 62 = .ok (.if_icmp .ge 44, 3) := by decide +kernel
theorem dX1_readDish_65 : decode cX1_readDish 65 = .ok (.iload_n 1, 1) := by decide +kernel
theorem dX1_readDish_66 : decode cX1_readDish 66 = .ok (.ifCond .eq 40, 3) := by decide +kernel
theorem dX1_readDish_69 : decode cX1_readDish 69 = .ok (.aload_n 0, 1) := by decide +kernel
theorem dX1_readDish_70 : decode cX1_readDish 70 = .ok (.bipush 19, 2) := by decide +kernel
theorem dX1_readDish_72 : decode cX1_readDish 72 = .ok (.invokevirtual 23, 3) := by decide +kernel
theorem dX1_readDish_75 : decode cX1_readDish 75 = .ok (.ifCond .eq 31, 3) := by decide +kernel
theorem dX1_readDish_78 : decode cX1_readDish 78 = .ok (.aload_n 0, 1) := by decide +kernel
theorem dX1_readDish_79 : decode cX1_readDish 79 = .ok (.bipush 19, 2) := by decide +kernel
theorem dX1_readDish_81 : decode cX1_readDish 81 = .ok (.invokevirtual 50, 3) := by decide +kernel
theorem dX1_readDish_84 : decode cX1_readDish 84 = .ok (.ifCond .eq 14, 3) := by decide +kernel
theorem dX1_readDish_87 : decode cX1_readDish 87 = .ok (.aload_n 0, 1) := by decide +kernel
theorem dX1_readDish_88 : decode cX1_readDish 88 = .ok (.invokevirtual 56, 3) := by decide +kernel
theorem dX1_readDish_91 : decode cX1_readDish 91 = .ok (.ifCond .eq 7, 3) := by decide +kernel
theorem dX1_readDish_94 : decode cX1_readDish 94 = .ok (.iconst 1, 1) := by decide +kernel
theorem dX1_readDish_95 : decode cX1_readDish 95 = .ok (.goto 4, 3) := by decide +kernel
theorem dX1_readDish_98 : decode cX1_readDish 98 = .ok (.iconst 0, 1) := by decide +kernel
theorem dX1_readDish_99 : decode cX1_readDish 99 = .ok (.istore_n 1, 1) := by decide +kernel
theorem dX1_readDish_100 : decode cX1_readDish 100 = .ok (.iinc 2 1, 3) := by decide +kernel
theorem dX1_readDish_103 : decode cX1_readDish 103 = .ok (.goto (-45), 3) := by decide +kernel
theorem dX1_readDish_106 : decode cX1_readDish 106 = .ok (.iload_n 1, 1) := by decide +kernel
theorem dX1_readDish_107 : decode cX1_readDish 107 = .ok (.ifCond .eq 23, 3) := by decide +kernel
theorem dX1_readDish_110 : decode cX1_readDish 110 = .ok (.aload_n 0, 1) := by decide +kernel
theorem dX1_readDish_111 : decode cX1_readDish 111 = .ok (.invokevirtual 53, 3) := by decide +kernel
theorem dX1_readDish_114 : decode cX1_readDish 114 = .ok (.ifCond .eq 16, 3) := by decide +kernel
theorem dX1_readDish_117 : decode cX1_readDish 117 = .ok (.aload_n 0, 1) := by decide +kernel
theorem dX1_readDish_118 : decode cX1_readDish 118 = .ok (.bipush 17, 2) := by decide +kernel
theorem dX1_readDish_120 : decode cX1_readDish 120 = .ok (.invokevirtual 50, 3) := by decide +kernel
theorem dX1_readDish_123 : decode cX1_readDish 123 = .ok (.ifCond .eq 7, 3) := by decide +kernel
theorem dX1_readDish_126 : decode cX1_readDish 126 = .ok (.iconst 1, 1) := by decide +kernel
theorem dX1_readDish_127 : decode cX1_readDish 127 = .ok (.goto 4, 3) := by decide +kernel
theorem dX1_readDish_130 : decode cX1_readDish 130 = .ok (.iconst 0, 1) := by decide +kernel
theorem dX1_readDish_131 : decode cX1_readDish 131 = .ok (.ireturn, 1) := by decide +kernel
theorem dX1_readPart_0 : decode cX1_readPart 0 = .ok (.aload_n 0, 1) := by decide +kernel
theorem dX1_readPart_1 : decode cX1_readPart 1 = .ok (.bipush 23, 2) := by decide +kernel
theorem dX1_readPart_3 : decode cX1_readPart 3 = .ok (.invokevirtual 50, 3) := by decide +kernel
theorem dX1_readPart_6 : decode cX1_readPart 6 = .ok (.istore_n 1, 1) := by decide +kernel
theorem dX1_readPart_7 : decode cX1_readPart 7 = .ok (.iload_n 1, 1) := by decide +kernel
theorem dX1_readPart_8 : decode cX1_readPart 8 = .ok (.ifCond .eq 17, 3) := by decide +kernel
theorem dX1_readPart_11 : decode cX1_readPart 11 = .ok (.aload_n 0, 1) := by decide +kernel
theorem dX1_readPart_12 : decode cX1_readPart 12 = .ok (.iconst 4, 1) := by decide +kernel
theorem dX1_readPart_13 : decode cX1_readPart 13 = .ok (.invokevirtual 23, 3) := by decide +kernel
theorem dX1_readPart_16 : decode cX1_readPart 16 = .ok (.ifCond .eq 9, 3) := by decide +kernel
theorem dX1_readPart_19 : decode cX1_readPart 19 = .ok (.aload_n 0, 1) := by decide +kernel
theorem dX1_readPart_20 : decode cX1_readPart 20 = .ok (.iconst 4, 1) := by decide +kernel
theorem dX1_readPart_21 : decode cX1_readPart 21 = .ok (.invokevirtual 50, 3) := by decide +kernel
theorem dX1_readPart_24 : decode cX1_readPart 24 = .ok (.istore_n 1, 1) := by decide +kernel
theorem dX1_readPart_25 : decode cX1_readPart 25 = .ok (.iload_n 1, 1) := by decide +kernel
theorem dX1_readPart_26 : decode cX1_readPart 26 = .ok (.ifCond .eq 16, 3) := by decide +kernel
theorem dX1_readPart_29 : decode cX1_readPart 29 = .ok (.aload_n 0, 1) := by decide +kernel
theorem dX1_readPart_30 : decode cX1_readPart 30 = .ok (.bipush 22, 2) := by decide +kernel
theorem dX1_readPart_32 : decode cX1_readPart 32 = .ok (.invokevirtual 50, 3) := by decide +kernel
theorem dX1_readPart_35 : decode cX1_readPart 35 = .ok (.ifCond .eq 7, 3) := by decide +kernel
theorem dX1_readPart_38 : decode cX1_readPart 38 = .ok (.iconst 1, 1) := by decide +kernel
theorem dX1_readPart_39 : decode cX1_readPart 39 = .ok (.goto 4, 3) := by decide +kernel
theorem dX1_readPart_42 : decode cX1_readPart 42 = .ok (.iconst 0, 1) := by decide +kernel
theorem dX1_readPart_43 : decode cX1_readPart 43 = .ok (.ireturn, 1) := by decide +kernel
theorem dX1_readTags_0 : decode cX1_readTags 0 = .ok (.aload_n 0, 1) := by decide +kernel
theorem dX1_readTags_1 : decode cX1_readTags 1 = .ok (.iconst 3, 1) := by decide +kernel
theorem dX1_readTags_2 : decode cX1_readTags 2 = .ok (.invokevirtual 23, 3) := by decide +kernel
theorem dX1_readTags_5 : decode cX1_readTags 5 = .ok (.ifCond .ne 5, 3) := by decide +kernel
theorem dX1_readTags_8 : decode cX1_readTags 8 = .ok (.iconst 1, 1) := by decide +kernel
theorem dX1_readTags_9 : decode cX1_readTags 9 = .ok (.ireturn, 1) := by decide +kernel
theorem dX1_readTags_10 : decode cX1_readTags 10 = .ok (.aload_n 0, 1) := by decide +kernel
theorem dX1_readTags_11 : decode cX1_readTags 11 = .ok (.iconst 3, 1) := by decide +kernel
theorem dX1_readTags_12 : decode cX1_readTags 12 = .ok (.invokevirtual 50, 3) := by decide +kernel
theorem dX1_readTags_15 : decode cX1_readTags 15 = .ok (.ifCond .eq 16, 3) := by decide +kernel
theorem dX1_readTags_18 : decode cX1_readTags 18 = .ok (.aload_n 0, 1) := by decide +kernel
theorem dX1_readTags_19 : decode cX1_readTags 19 = .ok (.bipush 22, 2) := by decide +kernel
theorem dX1_readTags_21 : decode cX1_readTags 21 = .ok (.invokevirtual 50, 3) := by decide +kernel
theorem dX1_readTags_24 : decode cX1_readTags 24 = .ok (.ifCond .eq 7, 3) := by decide +kernel
theorem dX1_readTags_27 : decode cX1_readTags 27 = .ok (.iconst 1, 1) := by decide +kernel
theorem dX1_readTags_28 : decode cX1_readTags 28 = .ok (.goto 4, 3) := by decide +kernel
theorem dX1_readTags_31 : decode cX1_readTags 31 = .ok (.iconst 0, 1) := by decide +kernel
theorem dX1_readTags_32 : decode cX1_readTags 32 = .ok (.istore_n 1, 1) := by decide +kernel
theorem dX1_readTags_33 : decode cX1_readTags 33 = .ok (.iconst 0, 1) := by decide +kernel
theorem dX1_readTags_34 : decode cX1_readTags 34 = .ok (.istore_n 2, 1) := by decide +kernel
theorem dX1_readTags_35 : decode cX1_readTags 35 = .ok (.iload_n 2, 1) := by decide +kernel
theorem dX1_readTags_36 : decode cX1_readTags 36 = .ok (.sipush 1500, 3) := by decide +kernel
theorem dX1_readTags_39 : decode cX1_readTags 39 = .ok (.if_icmp .ge 46, 3) := by decide +kernel
theorem dX1_readTags_42 : decode cX1_readTags 42 = .ok (.iload_n 1, 1) := by decide +kernel
theorem dX1_readTags_43 : decode cX1_readTags 43 = .ok (.ifCond .eq 42, 3) := by decide +kernel
theorem dX1_readTags_46 : decode cX1_readTags 46 = .ok (.aload_n 0, 1) := by decide +kernel
theorem dX1_readTags_47 : decode cX1_readTags 47 = .ok (.bipush 19, 2) := by decide +kernel
theorem dX1_readTags_49 : decode cX1_readTags 49 = .ok (.invokevirtual 23, 3) := by decide +kernel
theorem dX1_readTags_52 : decode cX1_readTags 52 = .ok (.ifCond .eq 33, 3) := by decide +kernel
theorem dX1_readTags_55 : decode cX1_readTags 55 = .ok (.aload_n 0, 1) := by decide +kernel
theorem dX1_readTags_56 : decode cX1_readTags 56 = .ok (.bipush 19, 2) := by decide +kernel
theorem dX1_readTags_58 : decode cX1_readTags 58 = .ok (.invokevirtual 50, 3) := by decide +kernel
theorem dX1_readTags_61 : decode cX1_readTags 61 = .ok (.ifCond .eq 16, 3) := by decide +kernel
theorem dX1_readTags_64 : decode cX1_readTags 64 = .ok (.aload_n 0, 1) := by decide +kernel
theorem dX1_readTags_65 : decode cX1_readTags 65 = .ok (.bipush 22, 2) := by decide +kernel
theorem dX1_readTags_67 : decode cX1_readTags 67 = .ok (.invokevirtual 50, 3) := by decide +kernel
theorem dX1_readTags_70 : decode cX1_readTags 70 = .ok (.ifCond .eq 7, 3) := by decide +kernel
theorem dX1_readTags_73 : decode cX1_readTags 73 = .ok (.iconst 1, 1) := by decide +kernel
theorem dX1_readTags_74 : decode cX1_readTags 74 = .ok (.goto 4, 3) := by decide +kernel
theorem dX1_readTags_77 : decode cX1_readTags 77 = .ok (.iconst 0, 1) := by decide +kernel
theorem dX1_readTags_78 : decode cX1_readTags 78 = .ok (.istore_n 1, 1) := by decide +kernel
theorem dX1_readTags_79 : decode cX1_readTags 79 = .ok (.iinc 2 1, 3) := by decide +kernel
theorem dX1_readTags_82 : decode cX1_readTags 82 = .ok (.goto (-47), 3) := by decide +kernel
theorem dX1_readTags_85 : decode cX1_readTags 85 = .ok (.iload_n 1, 1) := by decide +kernel
theorem dX1_readTags_86 : decode cX1_readTags 86 = .ok (.ireturn, 1) := by decide +kernel
theorem dX1_readMeal_0 : decode cX1_readMeal 0 = .ok (.aload_n 0, 1) := by decide +kernel
theorem dX1_readMeal_1 : decode cX1_readMeal 1 = .ok (.iconst 5, 1) := by decide +kernel
theorem dX1_readMeal_2 : decode cX1_readMeal 2 = .ok (.invokevirtual 50, 3) := by decide +kernel
theorem dX1_readMeal_5 : decode cX1_readMeal 5 = .ok (.ifCond .eq 33, 3) := by decide +kernel
theorem dX1_readMeal_8 : decode cX1_readMeal 8 = .ok (.aload_n 0, 1) := by decide +kernel
theorem dX1_readMeal_9 : decode cX1_readMeal 9 = .ok (.bipush 22, 2) := by decide +kernel
theorem dX1_readMeal_11 : decode cX1_readMeal 11 = .ok (.invokevirtual 50, 3) := by decide +kernel
theorem dX1_readMeal_14 : decode cX1_readMeal 14 = .ok (.ifCond .eq 24, 3) := by decide +kernel
theorem dX1_readMeal_17 : decode cX1_readMeal 17 = .ok (.aload_n 0, 1) := by decide +kernel
theorem dX1_readMeal_18 : decode cX1_readMeal 18 = .ok (.bipush 18, 2) := by decide +kernel
theorem dX1_readMeal_20 : decode cX1_readMeal 20 = .ok (.invokevirtual 50, 3) := by decide +kernel
theorem dX1_readMeal_23 : decode cX1_readMeal 23 = .ok (.ifCond .eq 15, 3) := by decide +kernel
theorem dX1_readMeal_26 : decode cX1_readMeal 26 = .ok (.aload_n 0, 1) := by decide +kernel
theorem dX1_readMeal_27 : decode cX1_readMeal 27 = .ok (.iconst 0, 1) := by decide +kernel
theorem dX1_readMeal_28 : decode cX1_readMeal 28 = .ok (.invokevirtual 47, 3) := by decide +kernel
theorem dX1_readMeal_31 : decode cX1_readMeal 31 = .ok (.ifCond .eq 7, 3) := by decide +kernel
theorem dX1_readMeal_34 : decode cX1_readMeal 34 = .ok (.iconst 1, 1) := by decide +kernel
theorem dX1_readMeal_35 : decode cX1_readMeal 35 = .ok (.goto 4, 3) := by decide +kernel
theorem dX1_readMeal_38 : decode cX1_readMeal 38 = .ok (.iconst 0, 1) := by decide +kernel
theorem dX1_readMeal_39 : decode cX1_readMeal 39 = .ok (.istore_n 1, 1) := by decide +kernel
theorem dX1_readMeal_40 : decode cX1_readMeal 40 = .ok (.iconst 0, 1) := by decide +kernel
theorem dX1_readMeal_41 : decode cX1_readMeal 41 = .ok (.istore_n 2, 1) := by decide +kernel
theorem dX1_readMeal_42 : decode cX1_readMeal 42 = .ok (.iload_n 2, 1) := by decide +kernel
theorem dX1_readMeal_43 : decode cX1_readMeal 43 = .ok (.sipush 1500, 3) := by decide +kernel
theorem dX1_readMeal_46 : decode cX1_readMeal 46 = .ok (.if_icmp .ge 45, 3) := by decide +kernel
theorem dX1_readMeal_49 : decode cX1_readMeal 49 = .ok (.iload_n 1, 1) := by decide +kernel
theorem dX1_readMeal_50 : decode cX1_readMeal 50 = .ok (.ifCond .eq 41, 3) := by decide +kernel
theorem dX1_readMeal_53 : decode cX1_readMeal 53 = .ok (.aload_n 0, 1) := by decide +kernel
theorem dX1_readMeal_54 : decode cX1_readMeal 54 = .ok (.bipush 19, 2) := by decide +kernel
theorem dX1_readMeal_56 : decode cX1_readMeal 56 = .ok (.invokevirtual 23, 3) := by decide +kernel
theorem dX1_readMeal_59 : decode cX1_readMeal 59 = .ok (.ifCond .eq 32, 3) := by decide +kernel
theorem dX1_readMeal_62 : decode cX1_readMeal 62 = .ok (.aload_n 0, 1) := by decide +kernel
theorem dX1_readMeal_63 : decode cX1_readMeal 63 = .ok (.bipush 19, 2) := by decide +kernel
theorem dX1_readMeal_65 : decode cX1_readMeal 65 = .ok (.invokevirtual 50, 3) := by decide +kernel
theorem dX1_readMeal_68 : decode cX1_readMeal 68 = .ok (.ifCond .eq 15, 3) := by decide +kernel
theorem dX1_readMeal_71 : decode cX1_readMeal 71 = .ok (.aload_n 0, 1) := by decide +kernel
theorem dX1_readMeal_72 : decode cX1_readMeal 72 = .ok (.iconst 0, 1) := by decide +kernel
theorem dX1_readMeal_73 : decode cX1_readMeal 73 = .ok (.invokevirtual 47, 3) := by decide +kernel
theorem dX1_readMeal_76 : decode cX1_readMeal 76 = .ok (.ifCond .eq 7, 3) := by decide +kernel
theorem dX1_readMeal_79 : decode cX1_readMeal 79 = .ok (.iconst 1, 1) := by decide +kernel
theorem dX1_readMeal_80 : decode cX1_readMeal 80 = .ok (.goto 4, 3) := by decide +kernel
theorem dX1_readMeal_83 : decode cX1_readMeal 83 = .ok (.iconst 0, 1) := by decide +kernel
theorem dX1_readMeal_84 : decode cX1_readMeal 84 = .ok (.istore_n 1, 1) := by decide +kernel
theorem dX1_readMeal_85 : decode cX1_readMeal 85 = .ok (.iinc 2 1, 3) := by decide +kernel
theorem dX1_readMeal_88 : decode cX1_readMeal 88 = .ok (.goto (-46), 3) := by decide +kernel
theorem dX1_readMeal_91 : decode cX1_readMeal 91 = .ok (.iload_n 1, 1) := by decide +kernel
theorem dX1_readMeal_92 : decode cX1_readMeal 92 = .ok (.ifCond .eq 16, 3) := by decide +kernel
theorem dX1_readMeal_95 : decode cX1_readMeal 95 = .ok (.aload_n 0, 1) := by decide +kernel
theorem dX1_readMeal_96 : decode cX1_readMeal 96 = .ok (.bipush 17, 2) := by decide +kernel
theorem dX1_readMeal_98 : decode cX1_readMeal 98 = .ok (.invokevirtual 50, 3) := by decide +kernel
theorem dX1_readMeal_101 : decode cX1_readMeal 101 = .ok (.ifCond .eq 7, 3) := by decide +kernel
theorem dX1_readMeal_104 : decode cX1_readMeal 104 = .ok (.iconst 1, 1) := by decide +kernel
theorem dX1_readMeal_105 : decode cX1_readMeal 105 = .ok (.goto 4, 3) := by decide +kernel
theorem dX1_readMeal_108 : decode cX1_readMeal 108 = .ok (.iconst 0, 1) := by decide +kernel
theorem dX1_readMeal_109 : decode cX1_readMeal 109 = .ok (.ireturn, 1) := by decide +kernel
theorem dX1_readRule_0 : decode cX1_readRule 0 = .ok (.aload_n 0, 1) := by decide +kernel
theorem dX1_readRule_1 : decode cX1_readRule 1 = .ok (.bipush 6, 2) := by decide +kernel
theorem dX1_readRule_3 : decode cX1_readRule 3 = .ok (.invokevirtual 50, 3) := by decide +kernel
theorem dX1_readRule_6 : decode cX1_readRule 6 = .ok (.ifCond .ne 5, 3) := by decide +kernel
theorem dX1_readRule_9 : decode cX1_readRule 9 = .ok (.iconst 0, 1) := by decide +kernel
theorem dX1_readRule_10 : decode cX1_readRule 10 = .ok (.ireturn, 1) := by decide +kernel
theorem dX1_readRule_11 : decode cX1_readRule 11 = .ok (.aload_n 0, 1) := by decide +kernel
theorem dX1_readRule_12 : decode cX1_readRule 12 = .ok (.getfield 9, 3) := by decide +kernel
theorem dX1_readRule_15 : decode cX1_readRule 15 = .ok (.aload_n 0, 1) := by decide +kernel
theorem dX1_readRule_16 : decode cX1_readRule 16 = .ok (.getfield 15, 3) := by decide +kernel
theorem dX1_readRule_19 : decode cX1_readRule 19 = .ok (.invokevirtual 27, 3) := by decide +kernel
theorem dX1_readRule_22 : decode cX1_readRule 22 = .ok (.tableswitch 112 7 9 #[26, 68, 90], 26) := by decide +kernel
theorem dX1_readRule_48 : decode cX1_readRule 48 = .ok (.aload_n 0, 1) := by decide +kernel
theorem dX1_readRule_49 : decode cX1_readRule 49 = .ok (.bipush 7, 2) := by decide +kernel
theorem dX1_readRule_51 : decode cX1_readRule 51 = .ok (.invokevirtual 50, 3) := by decide +kernel
theorem dX1_readRule_54 : decode cX1_readRule 54 = .ok (.ifCond .eq 34, 3) := by decide +kernel
theorem dX1_readRule_57 : decode cX1_readRule 57 = .ok (.aload_n 0, 1) := by decide +kernel
theorem dX1_readRule_58 : decode cX1_readRule 58 = .ok (.bipush 23, 2) := by decide +kernel
theorem dX1_readRule_60 : decode cX1_readRule 60 = .ok (.invokevirtual 50, 3) := by decide +kernel
theorem dX1_readRule_63 : decode cX1_readRule 63 = .ok (.ifCond .eq 25, 3) := by decide +kernel
theorem dX1_readRule_66 : decode cX1_readRule 66 = .ok (.aload_n 0, 1) := by decide +kernel
theorem dX1_readRule_67 : decode cX1_readRule 67 = .ok (.bipush 22, 2) := by decide +kernel
theorem dX1_readRule_69 : decode cX1_readRule 69 = .ok (.invokevirtual 50, 3) := by decide +kernel
theorem dX1_readRule_72 : decode cX1_readRule 72 = .ok (.ifCond .eq 16, 3) := by decide +kernel
theorem dX1_readRule_75 : decode cX1_readRule 75 = .ok (.aload_n 0, 1) := by decide +kernel
theorem dX1_readRule_76 : decode cX1_readRule 76 = .ok (.bipush 17, 2) := by decide +kernel
theorem dX1_readRule_78 : decode cX1_readRule 78 = .ok (.invokevirtual 50, 3) := by decide +kernel
theorem dX1_readRule_81 : decode cX1_readRule 81 = .ok (.ifCond .eq 7, 3) := by decide +kernel
theorem dX1_readRule_84 : decode cX1_readRule 84 = .ok (.iconst 1, 1) := by decide +kernel
theorem dX1_readRule_85 : decode cX1_readRule 85 = .ok (.goto 4, 3) := by decide +kernel
theorem dX1_readRule_88 : decode cX1_readRule 88 = .ok (.iconst 0, 1) := by decide +kernel
theorem dX1_readRule_89 : decode cX1_readRule 89 = .ok (.ireturn, 1) := by decide +kernel
theorem dX1_readRule_90 : decode cX1_readRule 90 = .ok (.aload_n 0, 1) := by decide +kernel
theorem dX1_readRule_91 : decode cX1_readRule 91 = .ok (.bipush 8, 2) := by decide +kernel
theorem dX1_readRule_93 : decode cX1_readRule 93 = .ok (.invokevirtual 50, 3) := by decide +kernel
theorem dX1_readRule_96 : decode cX1_readRule 96 = .ok (.ifCond .eq 14, 3) := by decide +kernel
theorem dX1_readRule_99 : decode cX1_readRule 99 = .ok (.aload_n 0, 1) := by decide +kernel
theorem dX1_readRule_100 : decode cX1_readRule 100 = .ok (.invokevirtual 59, 3) := by decide +kernel
theorem dX1_readRule_103 : decode cX1_readRule 103 = .ok (.ifCond .eq 7, 3) := by decide +kernel
theorem dX1_readRule_106 : decode cX1_readRule 106 = .ok (.iconst 1, 1) := by decide +kernel
theorem dX1_readRule_107 : decode cX1_readRule 107 = .ok (.goto 4, 3) := by decide +kernel
theorem dX1_readRule_110 : decode cX1_readRule 110 = .ok (.iconst 0, 1) := by decide +kernel
theorem dX1_readRule_111 : decode cX1_readRule 111 = .ok (.ireturn, 1) := by decide +kernel
theorem dX1_readRule_112 : decode cX1_readRule 112 = .ok (.aload_n 0, 1) := by decide +kernel
theorem dX1_readRule_113 : decode cX1_readRule 113 = .ok (.bipush 9, 2) := by decide +kernel
theorem dX1_readRule_115 : decode cX1_readRule 115 = .ok (.invokevirtual 50, 3) := by decide +kernel
theorem dX1_readRule_118 : decode cX1_readRule 118 = .ok (.ifCond .eq 14, 3) := by decide +kernel
theorem dX1_readRule_121 : decode cX1_readRule 121 = .ok (.aload_n 0, 1) := by decide +kernel
theorem dX1_readRule_122 : decode cX1_readRule 122 = .ok (.invokevirtual 59, 3) := by decide +kernel
theorem dX1_readRule_125 : decode cX1_readRule 125 = .ok (.ifCond .eq 7, 3) := by decide +kernel
theorem dX1_readRule_128 : decode cX1_readRule 128 = .ok (.iconst 1, 1) := by decide +kernel
theorem dX1_readRule_129 : decode cX1_readRule 129 = .ok (.goto 4, 3) := by decide +kernel
theorem dX1_readRule_132 : decode cX1_readRule 132 = .ok (.iconst 0, 1) := by decide +kernel
theorem dX1_readRule_133 : decode cX1_readRule 133 = .ok (.ireturn, 1) := by decide +kernel
theorem dX1_readRule_134 : decode cX1_readRule 134 = .ok (.aload_n 0, 1) := by decide +kernel
theorem dX1_readRule_135 : decode cX1_readRule 135 = .ok (.bipush 11, 2) := by decide +kernel
theorem dX1_readRule_137 : decode cX1_readRule 137 = .ok (.invokevirtual 50, 3) := by decide +kernel
theorem dX1_readRule_140 : decode cX1_readRule 140 = .ok (.ifCond .eq 43, 3) := by decide +kernel
theorem dX1_readRule_143 : decode cX1_readRule 143 = .ok (.aload_n 0, 1) := by decide +kernel
theorem dX1_readRule_144 : decode cX1_readRule 144 = .ok (.bipush 23, 2) := by decide +kernel
theorem dX1_readRule_146 : decode cX1_readRule 146 = .ok (.invokevirtual 50, 3) := by decide +kernel
theorem dX1_readRule_149 : decode cX1_readRule 149 = .ok (.ifCond .eq 34, 3) := by decide +kernel
theorem dX1_readRule_152 : decode cX1_readRule 152 = .ok (.aload_n 0, 1) := by decide +kernel
theorem dX1_readRule_153 : decode cX1_readRule 153 = .ok (.bipush 12, 2) := by decide +kernel
theorem dX1_readRule_155 : decode cX1_readRule 155 = .ok (.invokevirtual 50, 3) := by decide +kernel
theorem dX1_readRule_158 : decode cX1_readRule 158 = .ok (.ifCond .eq 25, 3) := by decide +kernel
theorem dX1_readRule_161 : decode cX1_readRule 161 = .ok (.aload_n 0, 1) := by decide +kernel
theorem dX1_readRule_162 : decode cX1_readRule 162 = .ok (.bipush 23, 2) := by decide +kernel
theorem dX1_readRule_164 : decode cX1_readRule 164 = .ok (.invokevirtual 50, 3) := by decide +kernel
theorem dX1_readRule_167 : decode cX1_readRule 167 = .ok (.ifCond .eq 16, 3) := by decide +kernel
theorem dX1_readRule_170 : decode cX1_readRule 170 = .ok (.aload_n 0, 1) := by decide +kernel
theorem dX1_readRule_171 : decode cX1_readRule 171 = .ok (.bipush 17, 2) := by decide +kernel
theorem dX1_readRule_173 : decode cX1_readRule 173 = .ok (.invokevirtual 50, 3) := by decide +kernel
theorem dX1_readRule_176 : decode cX1_readRule 176 = .ok (.ifCond .eq 7, 3) := by decide +kernel
theorem dX1_readRule_179 : decode cX1_readRule 179 = .ok (.iconst 1, 1) := by decide +kernel
theorem dX1_readRule_180 : decode cX1_readRule 180 = .ok (.goto 4, 3) := by decide +kernel
theorem dX1_readRule_183 : decode cX1_readRule 183 = .ok (.iconst 0, 1) := by decide +kernel
theorem dX1_readRule_184 : decode cX1_readRule 184 = .ok (.ireturn, 1) := by decide +kernel
theorem dX1_readSpan_0 : decode cX1_readSpan 0 = .ok (.aload_n 0, 1) := by decide +kernel
theorem dX1_readSpan_1 : decode cX1_readSpan 1 = .ok (.bipush 23, 2) := by decide +kernel
theorem dX1_readSpan_3 : decode cX1_readSpan 3 = .ok (.invokevirtual 50, 3) := by decide +kernel
theorem dX1_readSpan_6 : decode cX1_readSpan 6 = .ok (.ifCond .eq 43, 3) := by decide +kernel
theorem dX1_readSpan_9 : decode cX1_readSpan 9 = .ok (.aload_n 0, 1) := by decide +kernel
theorem dX1_readSpan_10 : decode cX1_readSpan 10 = .ok (.bipush 22, 2) := by decide +kernel
theorem dX1_readSpan_12 : decode cX1_readSpan 12 = .ok (.invokevirtual 50, 3) := by decide +kernel
theorem dX1_readSpan_15 : decode cX1_readSpan 15 = .ok (.ifCond .eq 34, 3) := by decide +kernel
theorem dX1_readSpan_18 : decode cX1_readSpan 18 = .ok (.aload_n 0, 1) := by decide +kernel
theorem dX1_readSpan_19 : decode cX1_readSpan 19 = .ok (.bipush 10, 2) := by decide +kernel
theorem dX1_readSpan_21 : decode cX1_readSpan 21 = .ok (.invokevirtual 50, 3) := by decide +kernel
theorem dX1_readSpan_24 : decode cX1_readSpan 24 = .ok (.ifCond .eq 25, 3) := by decide +kernel
theorem dX1_readSpan_27 : decode cX1_readSpan 27 = .ok (.aload_n 0, 1) := by decide +kernel
theorem dX1_readSpan_28 : decode cX1_readSpan 28 = .ok (.bipush 23, 2) := by decide +kernel
theorem dX1_readSpan_30 : decode cX1_readSpan 30 = .ok (.invokevirtual 50, 3) := by decide +kernel
theorem dX1_readSpan_33 : decode cX1_readSpan 33 = .ok (.ifCond .eq 16, 3) := by decide +kernel
theorem dX1_readSpan_36 : decode cX1_readSpan 36 = .ok (.aload_n 0, 1) := by decide +kernel
theorem dX1_readSpan_37 : decode cX1_readSpan 37 = .ok (.bipush 17, 2) := by decide +kernel
theorem dX1_readSpan_39 : decode cX1_readSpan 39 = .ok (.invokevirtual 50, 3) := by decide +kernel
theorem dX1_readSpan_42 : decode cX1_readSpan 42 = .ok (.ifCond .eq 7, 3) := by decide +kernel
theorem dX1_readSpan_45 : decode cX1_readSpan 45 = .ok (.iconst 1, 1) := by decide +kernel
theorem dX1_readSpan_46 : decode cX1_readSpan 46 = .ok (.goto 4, 3) := by decide +kernel
theorem dX1_readSpan_49 : decode cX1_readSpan 49 = .ok (.iconst 0, 1) := by decide +kernel
theorem dX1_readSpan_50 : decode cX1_readSpan 50 = .ok (.ireturn, 1) := by decide +kernel
theorem dX1_readExpression_0 : decode cX1_readExpression 0 = .ok (.iload_n 1, 1) := by decide +kernel
theorem dX1_readExpression_1 : decode cX1_readExpression 1 = .ok (.ifCond .ne 8, 3) := by decide +kernel
theorem dX1_readExpression_4 : decode cX1_readExpression 4 = .ok (.aload_n 0, 1) := by decide +kernel
theorem dX1_readExpression_5 : decode cX1_readExpression 5 = .ok (.iconst 0, 1) := by decide +kernel
theorem dX1_readExpression_6 : decode cX1_readExpression 6 = .ok (.putfield 62, 3) := by decide +kernel
theorem dX1_readExpression_9 : decode cX1_readExpression 9 = .ok (.aload_n 0, 1) := by decide +kernel
theorem dX1_readExpression_10 : decode cX1_readExpression 10 = .ok (.iload_n 1, 1) := by decide +kernel
theorem dX1_readExpression_11 : decode cX1_readExpression 11 = .ok (.invokevirtual 65, 3) := by decide +kernel
theorem dX1_readExpression_14 : decode cX1_readExpression 14 = .ok (.istore_n 2, 1) := by decide +kernel
theorem dX1_readExpression_15 : decode cX1_readExpression 15 = .ok (.iconst 0, 1) := by decide +kernel
theorem dX1_readExpression_16 : decode cX1_readExpression 16 = .ok (.istore_n 3, 1) := by decide +kernel
theorem dX1_readExpression_17 : decode cX1_readExpression 17 = .ok (.iload_n 3, 1) := by decide +kernel
theorem dX1_readExpression_18 : decode cX1_readExpression 18 = .ok (.bipush 30, 2) := by decide +kernel
theorem dX1_readExpression_20 : decode cX1_readExpression 20 = .ok (.if_icmp .ge 63, 3) := by decide +kernel
theorem dX1_readExpression_23 : decode cX1_readExpression 23 = .ok (.iload_n 2, 1) := by decide +kernel
theorem dX1_readExpression_24 : decode cX1_readExpression 24 = .ok (.ifCond .eq 59, 3) := by decide +kernel
theorem dX1_readExpression_27 : decode cX1_readExpression 27 = .ok (.aload_n 0, 1) := by decide +kernel
theorem dX1_readExpression_28 : decode cX1_readExpression 28 = .ok (.bipush 13, 2) := by decide +kernel
theorem dX1_readExpression_30 : decode cX1_readExpression 30 = .ok (.invokevirtual 23, 3) := by decide +kernel
theorem dX1_readExpression_33 : decode cX1_readExpression 33 = .ok (.ifCond .ne 12, 3) := by decide +kernel
theorem dX1_readExpression_36 : decode cX1_readExpression 36 = .ok (.aload_n 0, 1) := by decide +kernel
theorem dX1_readExpression_37 : decode cX1_readExpression 37 = .ok (.bipush 14, 2) := by decide +kernel
theorem dX1_readExpression_39 : decode cX1_readExpression 39 = .ok (.invokevirtual 23, 3) := by decide +kernel
theorem dX1_readExpression_42 : decode cX1_readExpression 42 = .ok (.ifCond .eq 41, 3) := by decide +kernel
theorem dX1_readExpression_45 : decode cX1_readExpression 45 = .ok (.aload_n 0, 1) := by decide +kernel
theorem dX1_readExpression_46 : decode cX1_readExpression 46 = .ok (.aload_n 0, 1) := by decide +kernel
theorem dX1_readExpression_47 : decode cX1_readExpression 47 = .ok (.getfield 9, 3) := by decide +kernel
theorem dX1_readExpression_50 : decode cX1_readExpression 50 = .ok (.aload_n 0, 1) := by decide +kernel
theorem dX1_readExpression_51 : decode cX1_readExpression 51 = .ok (.getfield 15, 3) := by decide +kernel
theorem dX1_readExpression_54 : decode cX1_readExpression 54 = .ok (.invokevirtual 27, 3) := by decide +kernel
theorem dX1_readExpression_57 : decode cX1_readExpression 57 = .ok (.invokevirtual 68, 3) := by decide +kernel
theorem dX1_readExpression_60 : decode cX1_readExpression 60 = .ok (.ifCond .eq 15, 3) := by decide +kernel
theorem dX1_readExpression_63 : decode cX1_readExpression 63 = .ok (.aload_n 0, 1) := by decide +kernel
theorem dX1_readExpression_64 : decode cX1_readExpression 64 = .ok (.iload_n 1, 1) := by decide +kernel
theorem dX1_readExpression_65 : decode cX1_readExpression 65 = .ok (.invokevirtual 65, 3) := by decide +kernel
theorem dX1_readExpression_68 : decode cX1_readExpression 68 = .ok (.ifCond .eq 7, 3) := by decide +kernel
theorem dX1_readExpression_71 : decode cX1_readExpression 71 = .ok (.iconst 1, 1) := by decide +kernel
theorem dX1_readExpression_72 : decode cX1_readExpression 72 = .ok (.goto 4, 3) := by decide +kernel
theorem dX1_readExpression_75 : decode cX1_readExpression 75 = .ok (.iconst 0, 1) := by decide +kernel
theorem dX1_readExpression_76 : decode cX1_readExpression 76 = .ok (.istore_n 2, 1) := by decide +kernel
theorem dX1_readExpression_77 : decode cX1_readExpression 77 = .ok (.iinc 3 1, 3) := by decide +kernel
theorem dX1_readExpression_80 : decode cX1_readExpression 80 = .ok (.goto (-63), 3) := by decide +kernel
theorem dX1_readExpression_83 : decode cX1_readExpression 83 = .ok (.iload_n 2, 1) := by decide +kernel
theorem dX1_readExpression_84 : decode cX1_readExpression 84 = .ok (.ireturn, 1) := by decide +kernel
theorem dX1_readOne_0 : decode cX1_readOne 0 = .ok (.aload_n 0, 1) := by decide +kernel
theorem dX1_readOne_1 : decode cX1_readOne 1 = .ok (.bipush 22, 2) := by decide +kernel
theorem dX1_readOne_3 : decode cX1_readOne 3 = .ok (.invokevirtual 23, 3) := by decide +kernel
theorem dX1_readOne_6 : decode cX1_readOne 6 = .ok (.ifCond .eq 10, 3) := by decide +kernel
theorem dX1_readOne_9 : decode cX1_readOne 9 = .ok (.aload_n 0, 1) := by decide +kernel
theorem dX1_readOne_10 : decode cX1_readOne 10 = .ok (.bipush 22, 2) := by decide +kernel
theorem dX1_readOne_12 : decode cX1_readOne 12 = .ok (.invokevirtual 68, 3) := by decide +kernel
theorem dX1_readOne_15 : decode cX1_readOne 15 = .ok (.ireturn, 1) := by decide +kernel
theorem dX1_readOne_16 : decode cX1_readOne 16 = .ok (.iload_n 1, 1) := by decide +kernel
theorem dX1_readOne_17 : decode cX1_readOne 17 = .ok (.bipush 8, 2) := by decide +kernel
theorem dX1_readOne_19 : decode cX1_readOne 19 = .ok (.if_icmp .lt 5, 3) := by decide +kernel
theorem dX1_readOne_22 : decode cX1_readOne 22 = .ok (.iconst 0, 1) := by decide +kernel
theorem dX1_readOne_23 : decode cX1_readOne 23 = .ok (.ireturn, 1) := by decide +kernel
theorem dX1_readOne_24 : decode cX1_readOne 24 = .ok (.aload_n 0, 1) := by decide +kernel
theorem dX1_readOne_25 : decode cX1_readOne 25 = .ok (.bipush 15, 2) := by decide +kernel
theorem dX1_readOne_27 : decode cX1_readOne 27 = .ok (.invokevirtual 23, 3) := by decide +kernel
theorem dX1_readOne_30 : decode cX1_readOne 30 = .ok (.ifCond .eq 28, 3) := by decide +kernel
theorem dX1_readOne_33 : decode cX1_readOne 33 = .ok (.aload_n 0, 1) := by decide +kernel
theorem dX1_readOne_34 : decode cX1_readOne 34 = .ok (.bipush 15, 2) := by decide +kernel
theorem dX1_readOne_36 : decode cX1_readOne 36 = .ok (.invokevirtual 68, 3) := by decide +kernel
theorem dX1_readOne_39 : decode cX1_readOne 39 = .ok (.ifCond .eq 17, 3) := by decide +kernel
theorem dX1_readOne_42 : decode cX1_readOne 42 = .ok (.aload_n 0, 1) := by decide +kernel
theorem dX1_readOne_43 : decode cX1_readOne 43 = .ok (.iload_n 1, 1) := by decide +kernel
theorem dX1_readOne_44 : decode cX1_readOne 44 = .ok (.iconst 1, 1) := by decide +kernel
theorem dX1_readOne_45 : decode cX1_readOne 45 = .ok (.iadd, 1) := by decide +kernel
theorem dX1_readOne_46 : decode cX1_readOne 46 = .ok (.invokevirtual 65, 3) := by decide +kernel
theorem dX1_readOne_49 : decode cX1_readOne 49 = .ok (.ifCond .eq 7, 3) := by decide +kernel
theorem dX1_readOne_52 : decode cX1_readOne 52 = .ok (.iconst 1, 1) := by decide +kernel
theorem dX1_readOne_53 : decode cX1_readOne 53 = .ok (.goto 4, 3) := by decide +kernel
theorem dX1_readOne_56 : decode cX1_readOne 56 = .ok (.iconst 0, 1) := by decide +kernel
theorem dX1_readOne_57 : decode cX1_readOne 57 = .ok (.ireturn, 1) := by decide +kernel
theorem dX1_readOne_58 : decode cX1_readOne 58 = .ok (.aload_n 0, 1) := by decide +kernel
theorem dX1_readOne_59 : decode cX1_readOne 59 = .ok (.bipush 20, 2) := by decide +kernel
theorem dX1_readOne_61 : decode cX1_readOne 61 = .ok (.invokevirtual 68, 3) := by decide +kernel
theorem dX1_readOne_64 : decode cX1_readOne 64 = .ok (.ifCond .eq 26, 3) := by decide +kernel
theorem dX1_readOne_67 : decode cX1_readOne 67 = .ok (.aload_n 0, 1) := by decide +kernel
theorem dX1_readOne_68 : decode cX1_readOne 68 = .ok (.iload_n 1, 1) := by decide +kernel
theorem dX1_readOne_69 : decode cX1_readOne 69 = .ok (.iconst 1, 1) := by decide +kernel
theorem dX1_readOne_70 : decode cX1_readOne 70 = .ok (.iadd, 1) := by decide +kernel
theorem dX1_readOne_71 : decode cX1_readOne 71 = .ok (.invokevirtual 47, 3) := by decide +kernel
theorem dX1_readOne_74 : decode cX1_readOne 74 = .ok (.ifCond .eq 16, 3) := by decide +kernel
theorem dX1_readOne_77 : decode cX1_readOne 77 = .ok (.aload_n 0, 1) := by decide +kernel
theorem dX1_readOne_78 : decode cX1_readOne 78 = .ok (.bipush 21, 2) := by decide +kernel
theorem dX1_readOne_80 : decode cX1_readOne 80 = .ok (.invokevirtual 68, 3) := by decide +kernel
theorem dX1_readOne_83 : decode cX1_readOne 83 = .ok (.ifCond .eq 7, 3) := by decide +kernel
theorem dX1_readOne_86 : decode cX1_readOne 86 = .ok (.iconst 1, 1) := by decide +kernel
theorem dX1_readOne_87 : decode cX1_readOne 87 = .ok (.goto 4, 3) := by decide +kernel
theorem dX1_readOne_90 : decode cX1_readOne 90 = .ok (.iconst 0, 1) := by decide +kernel
theorem dX1_readOne_91 : decode cX1_readOne 91 = .ok (.ireturn, 1) := by decide +kernel
theorem dX1_isKind_0 : decode cX1_isKind 0 = .ok (.aload_n 0, 1) := by decide +kernel
theorem dX1_isKind_1 : decode cX1_isKind 1 = .ok (.getfield 9, 3) := by decide +kernel
theorem dX1_isKind_4 : decode cX1_isKind 4 = .ok (.aload_n 0, 1) := by decide +kernel
theorem dX1_isKind_5 : decode cX1_isKind 5 = .ok (.getfield 15, 3) := by decide +kernel
theorem dX1_isKind_8 : decode cX1_isKind 8 = .ok (.invokevirtual 27, 3) := by decide +kernel
theorem dX1_isKind_11 : decode cX1_isKind 11 = .ok (.iload_n 1, 1) := by decide +kernel
theorem dX1_isKind_12 : decode cX1_isKind 12 = .ok (.if_icmp .ne 7, 3) := by decide +kernel
theorem dX1_isKind_15 : decode cX1_isKind 15 = .ok (.iconst 1, 1) := by decide +kernel
theorem dX1_isKind_16 : decode cX1_isKind 16 = .ok (.goto 4, 3) := by decide +kernel
theorem dX1_isKind_19 : decode cX1_isKind 19 = .ok (.iconst 0, 1) := by decide +kernel
theorem dX1_isKind_20 : decode cX1_isKind 20 = .ok (.ireturn, 1) := by decide +kernel
theorem dX1_take_0 : decode cX1_take 0 = .ok (.aload_n 0, 1) := by decide +kernel
theorem dX1_take_1 : decode cX1_take 1 = .ok (.getfield 9, 3) := by decide +kernel
theorem dX1_take_4 : decode cX1_take 4 = .ok (.aload_n 0, 1) := by decide +kernel
theorem dX1_take_5 : decode cX1_take 5 = .ok (.getfield 15, 3) := by decide +kernel
theorem dX1_take_8 : decode cX1_take 8 = .ok (.invokevirtual 27, 3) := by decide +kernel
theorem dX1_take_11 : decode cX1_take 11 = .ok (.iload_n 1, 1) := by decide +kernel
theorem dX1_take_12 : decode cX1_take 12 = .ok (.if_icmp .eq 5, 3) := by decide +kernel
theorem dX1_take_15 : decode cX1_take 15 = .ok (.iconst 0, 1) := by decide +kernel
theorem dX1_take_16 : decode cX1_take 16 = .ok (.ireturn, 1) := by decide +kernel
theorem dX1_take_17 : decode cX1_take 17 = .ok (.aload_n 0, 1) := by decide +kernel
theorem dX1_take_18 : decode cX1_take 18 = .ok (.dup, 1) := by decide +kernel
theorem dX1_take_19 : decode cX1_take 19 = .ok (.getfield 15, 3) := by decide +kernel
theorem dX1_take_22 : decode cX1_take 22 = .ok (.iconst 1, 1) := by decide +kernel
theorem dX1_take_23 : decode cX1_take 23 = .ok (.iadd, 1) := by decide +kernel
theorem dX1_take_24 : decode cX1_take 24 = .ok (.putfield 15, 3) := by decide +kernel
theorem dX1_take_27 : decode cX1_take 27 = .ok (.iconst 1, 1) := by decide +kernel
theorem dX1_take_28 : decode cX1_take 28 = .ok (.ireturn, 1) := by decide +kernel
theorem dX1_takeOfChoice_0 : decode cX1_takeOfChoice 0 = .ok (.aload_n 0, 1) := by decide +kernel
theorem dX1_takeOfChoice_1 : decode cX1_takeOfChoice 1 = .ok (.getfield 62, 3) := by decide +kernel
theorem dX1_takeOfChoice_4 : decode cX1_takeOfChoice 4 = .ok (.bipush 30, 2) := by decide +kernel
theorem dX1_takeOfChoice_6 : decode cX1_takeOfChoice 6 = .ok (.if_icmp .ge 18, 3) := by decide +kernel
theorem dX1_takeOfChoice_9 : decode cX1_takeOfChoice 9 = .ok (.aload_n 0, 1) := by decide +kernel
theorem dX1_takeOfChoice_10 : decode cX1_takeOfChoice 10 = .ok (.getfield 9, 3) := by decide +kernel
theorem dX1_takeOfChoice_13 : decode cX1_takeOfChoice 13 = .ok (.aload_n 0, 1) := by decide +kernel
theorem dX1_takeOfChoice_14 : decode cX1_takeOfChoice 14 = .ok (.getfield 15, 3) := by decide +kernel
theorem dX1_takeOfChoice_17 : decode cX1_takeOfChoice 17 = .ok (.invokevirtual 27, 3) := by decide +kernel
theorem dX1_takeOfChoice_20 : decode cX1_takeOfChoice 20 = .ok (.iload_n 1, 1) := by decide +kernel
theorem dX1_takeOfChoice_21 : decode cX1_takeOfChoice 21 = .ok (.if_icmp .eq 5, 3) := by decide +kernel
theorem dX1_takeOfChoice_24 : decode cX1_takeOfChoice 24 = .ok (.iconst 0, 1) := by decide +kernel
theorem dX1_takeOfChoice_25 : decode cX1_takeOfChoice 25 = .ok (.ireturn, 1) := by decide +kernel
theorem dX1_takeOfChoice_26 : decode cX1_takeOfChoice 26 = .ok (.aload_n 0, 1) := by decide +kernel
theorem dX1_takeOfChoice_27 : decode cX1_takeOfChoice 27 = .ok (.dup, 1) := by decide +kernel
theorem dX1_takeOfChoice_28 : decode cX1_takeOfChoice 28 = .ok (.getfield 62, 3) := by decide +kernel
theorem dX1_takeOfChoice_31 : decode cX1_takeOfChoice 31 = .ok (.iconst 1, 1) := by decide +kernel
theorem dX1_takeOfChoice_32 : decode cX1_takeOfChoice 32 = .ok (.iadd, 1) := by decide +kernel
theorem dX1_takeOfChoice_33 : decode cX1_takeOfChoice 33 = .ok (.putfield 62, 3) := by decide +kernel
theorem dX1_takeOfChoice_36 : decode cX1_takeOfChoice 36 = .ok (.aload_n 0, 1) := by decide +kernel
theorem dX1_takeOfChoice_37 : decode cX1_takeOfChoice 37 = .ok (.dup, 1) := by decide +kernel
theorem dX1_takeOfChoice_38 : decode cX1_takeOfChoice 38 = .ok (.getfield 15, 3) := by decide +kernel
theorem dX1_takeOfChoice_41 : decode cX1_takeOfChoice 41 = .ok (.iconst 1, 1) := by decide +kernel
theorem dX1_takeOfChoice_42 : decode cX1_takeOfChoice 42 = .ok (.iadd, 1) := by decide +kernel
theorem dX1_takeOfChoice_43 : decode cX1_takeOfChoice 43 = .ok (.putfield 15, 3) := by decide +kernel
theorem dX1_takeOfChoice_46 : decode cX1_takeOfChoice 46 = .ok (.iconst 1, 1) := by decide +kernel
theorem dX1_takeOfChoice_47 : decode cX1_takeOfChoice 47 = .ok (.ireturn, 1) := by decide +kernel
theorem dX2_init_0 : decode cX2_init 0 = .ok (.aload_n 0, 1) := by decide +kernel
theorem dX2_init_1 : decode cX2_init 1 = .ok (.invokespecial 3, 3) := by decide +kernel
theorem dX2_init_4 : decode cX2_init 4 = .ok (.aload_n 0, 1) := by decide +kernel
theorem dX2_init_5 : decode cX2_init 5 = .ok (.bipush 8, 2) := by decide +kernel
theorem dX2_init_7 : decode cX2_init 7 = .ok (.newarray .int, 2) := by decide +kernel
theorem dX2_init_9 : decode cX2_init 9 = .ok (.putfield 9, 3) := by decide +kernel
theorem dX2_init_12 : decode cX2_init 12 = .ok (.aload_n 0, 1) := by decide +kernel
theorem dX2_init_13 : decode cX2_init 13 = .ok (.bipush 8, 2) := by decide +kernel
theorem dX2_init_15 : decode cX2_init 15 = .ok (.newarray .int, 2) := by decide +kernel
theorem dX2_init_17 : decode cX2_init 17 = .ok (.putfield 15, 3) := by decide +kernel
theorem dX2_init_20 : decode cX2_init 20 = .ok (.aload_n 0, 1) := by decide +kernel
theorem dX2_init_21 : decode cX2_init 21 = .ok (.bipush 8, 2) := by decide +kernel
theorem dX2_init_23 : decode cX2_init 23 = .ok (.newarray .int, 2) := by decide +kernel
theorem dX2_init_25 : decode cX2_init 25 = .ok (.putfield 18, 3) := by decide +kernel
theorem dX2_init_28 : decode cX2_init 28 = .ok (.aload_n 0, 1) := by decide +kernel
theorem dX2_init_29 : decode cX2_init 29 = .ok (.aload_n 1, 1) := by decide +kernel
theorem dX2_init_30 : decode cX2_init 30 = .ok (.putfield 21, 3) := by decide +kernel
theorem dX2_init_33 : decode cX2_init 33 = .ok (.aload_n 0, 1) := by decide +kernel
theorem dX2_init_34 : decode cX2_init 34 = .ok (.aload_n 2, 1) := by decide +kernel
theorem dX2_init_35 : decode cX2_init 35 = .ok (.putfield 25, 3) := by decide +kernel
theorem dX2_init_38 : decode cX2_init 38 = .ok (.aload_n 0, 1) := by decide +kernel
theorem dX2_init_39 : decode cX2_init 39 = .ok (.aload_n 3, 1) := by decide +kernel
theorem dX2_init_40 : decode cX2_init 40 = .ok (.putfield 29, 3) := by decide +kernel
theorem dX2_init_43 : decode cX2_init 43 = .ok (.return_, 1) := by decide +kernel
theorem dX2_readProgram_0 : decode cX2_readProgram 0 = .ok (.aload_n 0, 1) := by decide +kernel
theorem dX2_readProgram_1 : decode cX2_readProgram 1 = .ok (.iconst 0, 1) := by decide +kernel
theorem dX2_readProgram_2 : decode cX2_readProgram 2 = .ok (.putfield 33, 3) := by decide +kernel
theorem dX2_readProgram_5 : decode cX2_readProgram 5 = .ok (.aload_n 0, 1) := by decide +kernel
theorem dX2_readProgram_6 : decode cX2_readProgram 6 = .ok (.iconst 0, 1) := by decide +kernel
theorem dX2_readProgram_7 : decode cX2_readProgram 7 = .ok (.putfield 37, 3) := by decide +kernel
theorem dX2_readProgram_10 : decode cX2_readProgram 10 = .ok (.aload_n 0, 1) := by decide +kernel
theorem dX2_readProgram_11 : decode cX2_readProgram 11 = .ok (.iconst (-1), 1) := by decide +kernel
theorem dX2_readProgram_12 : decode cX2_readProgram 12 = .ok (.putfield 40, 3) := by decide +kernel
theorem dX2_readProgram_15 : decode cX2_readProgram 15 = .ok (.iconst 1, 1) := by decide +kernel
theorem dX2_readProgram_16 : decode cX2_readProgram 16 = .ok (.istore_n 1, 1) := by decide +kernel
theorem dX2_readProgram_17 : decode cX2_readProgram 17 = .ok (.iconst 0, 1) := by decide +kernel
theorem dX2_readProgram_18 : decode cX2_readProgram 18 = .ok (.istore_n 2, 1) := by decide +kernel
theorem dX2_readProgram_19 : decode cX2_readProgram 19 = .ok (.iload_n 2, 1) := by decide +kernel
theorem dX2_readProgram_20 : decode cX2_readProgram 20 = .ok (.sipush 1500, 3) := by decide +kernel
theorem dX2_readProgram_23 : decode cX2_readProgram 23 = .ok (.if_icmp .ge 96, 3) := by decide +kernel
theorem dX2_readProgram_26 : decode cX2_readProgram 26 = .ok (.iload_n 1, 1) := by decide +kernel
theorem dX2_readProgram_27 : decode cX2_readProgram 27 = .ok (.ifCond .eq 92, 3) := by decide +kernel
theorem dX2_readProgram_30 : decode cX2_readProgram 30 = .ok (.aload_n 0, 1) := by decide +kernel
theorem dX2_readProgram_31 : decode cX2_readProgram 31 = .ok (.bipush 25, 2) := by decide +kernel
theorem dX2_readProgram_33 : decode cX2_readProgram 33 = .ok (.invokevirtual 47, 3) := by decide +kernel
theorem dX2_readProgram_36 : decode cX2_readProgram 36 = .ok (.ifCond .ne 83, 3) := by decide +kernel
theorem dX2_readProgram_39 : decode cX2_readProgram 39 = .ok (.aload_n 0, 1) := by decide +kernel
theorem dX2_readProgram_40 : decode cX2_readProgram 40 = .ok (.getfield 21, 3) := by decide +kernel
theorem dX2_readProgram_43 : decode cX2_readProgram 43 = .ok (.aload_n 0, 1) := by decide +kernel
theorem dX2_readProgram_44 : decode cX2_readProgram 44 = .ok (.getfield 33, 3) := by decide +kernel
theorem dX2_readProgram_47 : decode cX2_readProgram 47 = .ok (.invokevirtual 51, 3) := by decide +kernel
theorem dX2_readProgram_50 : decode cX2_readProgram 50 = .ok (.lookupswitch 58 #[(0, 34), (1, 42), (5, 50)], 34) := by decide +kernel
theorem dX2_readProgram_84 : decode cX2_readProgram 84 = .ok (.aload_n 0, 1) := by decide +kernel
theorem dX2_readProgram_85 : decode cX2_readProgram 85 = .ok (.invokevirtual 55, 3) := by decide +kernel
theorem dX2_readProgram_88 : decode cX2_readProgram 88 = .ok (.istore_n 1, 1) := by decide +kernel
theorem dX2_readProgram_89 : decode cX2_readProgram 89 = .ok (.goto 24, 3) := by decide +kernel
theorem dX2_readProgram_92 : decode cX2_readProgram 92 = .ok (.aload_n 0, 1) := by decide +kernel
theorem dX2_readProgram_93 : decode cX2_readProgram 93 = .ok (.invokevirtual 59, 3) := by decide +kernel
theorem dX2_readProgram_96 : decode cX2_readProgram 96 = .ok (.istore_n 1, 1) := by decide +kernel
theorem dX2_readProgram_97 : decode cX2_readProgram 97 = .ok (.goto 16, 3) := by decide +kernel
theorem dX2_readProgram_100 : decode cX2_readProgram 100 = .ok (.aload_n 0, 1) := by decide +kernel
theorem dX2_readProgram_101 : decode cX2_readProgram 101 = .ok (.invokevirtual 62, 3) := by decide +kernel
theorem dX2_readProgram_104 : decode cX2_readProgram 104 = .ok (.istore_n 1, 1) := by decide +kernel
theorem dX2_readProgram_105 : decode cX2_readProgram 105 = .ok (.goto 8, 3) := by decide +kernel
theorem dX2_readProgram_108 : decode cX2_readProgram 108 = .ok (.aload_n 0, 1) := by decide +kernel
theorem dX2_readProgram_109 : decode cX2_readProgram 109 = .ok (.invokevirtual 65, 3) := by decide +kernel
theorem dX2_readProgram_112 : decode cX2_readProgram 112 = .ok (.istore_n 1, 1) := by decide +kernel
theorem dX2_readProgram_113 : decode cX2_readProgram 113 = .ok (.iinc 2 1, 3) := by decide +kernel
theorem dX2_readProgram_116 : decode cX2_readProgram 116 = .ok (.goto (-97), 3) := by decide +kernel
theorem dX2_readProgram_119 : decode cX2_readProgram 119 = .ok (.iload_n 1, 1) := by decide +kernel
theorem dX2_readProgram_120 : decode cX2_readProgram 120 = .ok (.ifCond .eq 40, 3) := by decide +kernel
theorem dX2_readProgram_123 : decode cX2_readProgram 123 = .ok (.aload_n 0, 1) := by decide +kernel
theorem dX2_readProgram_124 : decode cX2_readProgram 124 = .ok (.getfield 25, 3) := by decide +kernel
theorem dX2_readProgram_127 : decode cX2_readProgram 127 = .ok (.getfield 68, 3) := by decide +kernel
theorem dX2_readProgram_130 : decode cX2_readProgram 130 = .ok (.getfield 74, 3) := by decide +kernel
theorem dX2_readProgram_133 : decode cX2_readProgram 133 = .ok (.ifCond .eq 16, 3) := by decide +kernel
theorem dX2_readProgram_136 : decode cX2_readProgram 136 = .ok (.aload_n 0, 1) := by decide +kernel
theorem dX2_readProgram_137 : decode cX2_readProgram 137 = .ok (.getfield 25, 3) := by decide +kernel
theorem dX2_readProgram_140 : decode cX2_readProgram 140 = .ok (.getfield 79, 3) := by decide +kernel
theorem dX2_readProgram_143 : decode cX2_readProgram 143 = .ok (.getfield 74, 3) := by decide +kernel
theorem dX2_readProgram_146 : decode cX2_readProgram 146 = .ok (.ifCond .ne 14, 3) := by decide +kernel
theorem dX2_readProgram_149 : decode cX2_readProgram 149 = .ok (.aload_n 0, 1) := by decide +kernel
theorem dX2_readProgram_150 : decode cX2_readProgram 150 = .ok (.bipush 6, 2) := by decide +kernel
theorem dX2_readProgram_152 : decode cX2_readProgram 152 = .ok (.aload_n 0, 1) := by decide +kernel
theorem dX2_readProgram_153 : decode cX2_readProgram 153 = .ok (.getfield 33, 3) := by decide +kernel
theorem dX2_readProgram_156 : decode cX2_readProgram 156 = .ok (.invokevirtual 82, 3) := by decide +kernel
theorem dX2_readProgram_159 : decode cX2_readProgram 159 = .ok (.pop, 1) := by decide +kernel
theorem dX2_readProgram_160 : decode cX2_readProgram 160 = .ok (.aload_n 0, 1) := by decide +kernel
theorem dX2_readProgram_161 : decode cX2_readProgram 161 = .ok (.getfield 37, 3) := by decide +kernel
theorem dX2_readProgram_164 : decode cX2_readProgram 164 = .ok (.ireturn, 1) := by decide +kernel
theorem dX2_readFood_0 : decode cX2_readFood 0 = .ok (.aload_n 0, 1) := by decide +kernel
theorem dX2_readFood_1 : decode cX2_readFood 1 = .ok (.getfield 25, 3) := by decide +kernel
theorem dX2_readFood_4 : decode cX2_readFood 4 = .ok (.getfield 86, 3) := by decide +kernel
theorem dX2_readFood_7 : decode cX2_readFood 7 = .ok (.getfield 74, 3) := by decide +kernel
theorem dX2_readFood_10 : decode cX2_readFood 10 = .ok (.istore_n 1, 1) := by decide +kernel
theorem dX2_readFood_11 : decode cX2_readFood 11 = .ok (.aload_n 0, 1) := by decide +kernel
theorem dX2_readFood_12 : decode cX2_readFood 12 = .ok (.getfield 25, 3) := by decide +kernel
theorem dX2_readFood_15 : decode cX2_readFood 15 = .ok (.getfield 86, 3) := by decide +kernel
theorem dX2_readFood_18 : decode cX2_readFood 18 = .ok (.invokevirtual 89, 3) := by decide +kernel
theorem dX2_readFood_21 : decode cX2_readFood 21 = .ok (.ifCond .ne 13, 3) := by decide +kernel
theorem dX2_readFood_24 : decode cX2_readFood 24 = .ok (.iload_n 1, 1) := by decide +kernel
theorem dX2_readFood_25 : decode cX2_readFood 25 = .ok (.ifCond .lt 9, 3) := by decide +kernel
theorem dX2_readFood_28 : decode cX2_readFood 28 = .ok (.iload_n 1, 1) := by decide +kernel
theorem dX2_readFood_29 : decode cX2_readFood 29 = .ok (.bipush 16, 2) := by decide +kernel
theorem dX2_readFood_31 : decode cX2_readFood 31 = .ok (.if_icmp .lt 13, 3) := by decide +kernel
theorem dX2_readFood_34 : decode cX2_readFood 34 = .ok (.aload_n 0, 1) := by decide +kernel
theorem dX2_readFood_35 : decode cX2_readFood 35 = .ok (.iconst 4, 1) := by decide +kernel
theorem dX2_readFood_36 : decode cX2_readFood 36 = .ok (.aload_n 0, 1) := by decide +kernel
theorem dX2_readFood_37 : decode cX2_readFood 37 = .ok (.getfield 33, 3) := by decide +kernel
theorem dX2_readFood_40 : decode cX2_readFood 40 = .ok (.invokevirtual 82, 3) := by decide +kernel
theorem dX2_readFood_43 : decode cX2_readFood 43 = .ok (.ireturn, 1) := by decide +kernel
theorem dX2_readFood_44 : decode cX2_readFood 44 = .ok (.aload_n 0, 1) := by decide +kernel
theorem dX2_readFood_45 : decode cX2_readFood 45 = .ok (.dup, 1) := by decide +kernel
theorem dX2_readFood_46 : decode cX2_readFood 46 = .ok (.getfield 33, 3) := by decide +kernel
theorem dX2_readFood_49 : decode cX2_readFood 49 = .ok (.iconst 1, 1) := by decide +kernel
theorem dX2_readFood_50 : decode cX2_readFood 50 = .ok (.iadd, 1) := by decide +kernel
theorem dX2_readFood_51 : decode cX2_readFood 51 = .ok (.putfield 33, 3) := by decide +kernel
theorem dX2_readFood_54 : decode cX2_readFood 54 = .ok (.aload_n 0, 1) := by decide +kernel
theorem dX2_readFood_55 : decode cX2_readFood 55 = .ok (.getfield 21, 3) := by decide +kernel
theorem dX2_readFood_58 : decode cX2_readFood 58 = .ok (.aload_n 0, 1) := by decide +kernel
theorem dX2_readFood_59 : decode cX2_readFood 59 = .ok (.getfield 33, 3) := by decide +kernel
theorem dX2_readFood_62 : decode cX2_readFood 62 = .ok (.invokevirtual 92, 3) := by decide +kernel
theorem dX2_readFood_65 : decode cX2_readFood 65 = .ok (.lstore_n 2, 1) := by decide +kernel
theorem dX2_readFood_66 : decode cX2_readFood 66 = .ok (.aload_n 0, 1) := by decide +kernel
theorem dX2_readFood_67 : decode cX2_readFood 67 = .ok (.invokevirtual 96, 3) := by decide +kernel
theorem dX2_readFood_70 : decode cX2_readFood 70 = .ok (.ifCond .eq 14, 3) := by decide +kernel
theorem dX2_readFood_73 : decode cX2_readFood 73 = .ok (.aload_n 0, 1) := by decide +kernel
theorem dX2_readFood_74 : decode cX2_readFood 74 = .ok (.iconst 0, 1) := by decide +kernel
theorem dX2_readFood_75 : decode cX2_readFood 75 = .ok (.sipush 900, 3) := by decide +kernel
theorem dX2_readFood_78 : decode cX2_readFood 78 = .ok (.invokevirtual 99, 3) := by decide +kernel
theorem dX2_readFood_81 : decode cX2_readFood 81 = .ok (.ifCond .ne 5, 3) := by decide +kernel
theorem dX2_readFood_84 : decode cX2_readFood 84 = .ok (.iconst 0, 1) := by decide +kernel
theorem dX2_readFood_85 : decode cX2_readFood 85 = .ok (.ireturn, 1) := by decide +kernel
theorem dX2_readFood_86 : decode cX2_readFood 86 = .ok (.aload_n 0, 1) := by decide +kernel
theorem dX2_readFood_87 : decode cX2_readFood 87 = .ok (.getfield 25, 3) := by decide +kernel
theorem dX2_readFood_90 : decode cX2_readFood 90 = .ok (.getfield 102, 3) := by decide +kernel
theorem dX2_readFood_93 : decode cX2_readFood 93 = .ok (.iload_n 1, 1) := by decide +kernel
theorem dX2_readFood_94 : decode cX2_readFood 94 = .ok (.aload_n 0, 1) := by decide +kernel
theorem dX2_readFood_95 : decode cX2_readFood 95 = .ok (.getfield 105, 3) := by decide +kernel
theorem dX2_readFood_98 : decode cX2_readFood 98 = .ok (.iastore, 1) := by decide +kernel
theorem dX2_readFood_99 : decode cX2_readFood 99 = .ok (.aload_n 0, 1) := by decide +kernel
theorem dX2_readFood_100 : decode cX2_readFood 100 = .ok (.getfield 25, 3) := by decide +kernel
theorem dX2_readFood_103 : decode cX2_readFood 103 = .ok (.getfield 108, 3) := by decide +kernel
theorem dX2_readFood_106 : decode cX2_readFood 106 = .ok (.iload_n 1, 1) := by decide +kernel
theorem dX2_readFood_107 : decode cX2_readFood 107 = .ok (.iconst 0, 1) := by decide +kernel
theorem dX2_readFood_108 : decode cX2_readFood 108 = .ok (.iastore, 1) := by decide +kernel
theorem dX2_readFood_109 : decode cX2_readFood 109 = .ok (.aload_n 0, 1) := by decide +kernel
theorem dX2_readFood_110 : decode cX2_readFood 110 = .ok (.bipush 16, 2) := by decide +kernel
theorem dX2_readFood_112 : decode cX2_readFood 112 = .ok (.invokevirtual 47, 3) := by decide +kernel
theorem dX2_readFood_115 : decode cX2_readFood 115 = .ok (.ifCond .eq 39, 3) := by decide +kernel
theorem dX2_readFood_118 : decode cX2_readFood 118 = .ok (.aload_n 0, 1) := by decide +kernel
theorem dX2_readFood_119 : decode cX2_readFood 119 = .ok (.dup, 1) := by decide +kernel
theorem dX2_readFood_120 : decode cX2_readFood 120 = .ok (.getfield 33, 3) := by decide +kernel
theorem dX2_readFood_123 : decode cX2_readFood 123 = .ok (.iconst 1, 1) := by decide +kernel
theorem dX2_readFood_124 : decode cX2_readFood 124 = .ok (.iadd, 1) := by decide +kernel
theorem dX2_readFood_125 : decode cX2_readFood 125 = .ok (.putfield 33, 3) := by decide +kernel
theorem dX2_readFood_128 : decode cX2_readFood 128 = .ok (.aload_n 0, 1) := by decide +kernel
theorem dX2_readFood_129 : decode cX2_readFood 129 = .ok (.iconst 0, 1) := by decide +kernel
theorem dX2_readFood_130 : decode cX2_readFood 130 = .ok (.sipush 999, 3) := by decide +kernel
theorem dX2_readFood_133 : decode cX2_readFood 133 = .ok (.invokevirtual 99, 3) := by decide +kernel
theorem dX2_readFood_136 : decode cX2_readFood 136 = .ok (.ifCond .ne 5, 3) := by decide +kernel
theorem dX2_readFood_139 : decode cX2_readFood 139 = .ok (.iconst 0, 1) := by decide +kernel
theorem dX2_readFood_140 : decode cX2_readFood 140 = .ok (.ireturn, 1) := by decide +kernel
theorem dX2_readFood_141 : decode cX2_readFood 141 = .ok (.aload_n 0, 1) := by decide +kernel
theorem dX2_readFood_142 : decode cX2_readFood 142 = .ok (.getfield 25, 3) := by decide +kernel
theorem dX2_readFood_145 : decode cX2_readFood 145 = .ok (.getfield 108, 3) := by decide +kernel
theorem dX2_readFood_148 : decode cX2_readFood 148 = .ok (.iload_n 1, 1) := by decide +kernel
theorem dX2_readFood_149 : decode cX2_readFood 149 = .ok (.aload_n 0, 1) := by decide +kernel
theorem dX2_readFood_150 : decode cX2_readFood 150 = .ok (.getfield 105, 3) := by decide +kernel
theorem dX2_readFood_153 : decode cX2_readFood 153 = .ok (.iastore, 1) := by decide +kernel
theorem dX2_readFood_154 : decode cX2_readFood 154 = .ok (.aload_n 0, 1) := by decide +kernel
theorem dX2_readFood_155 : decode cX2_readFood 155 = .ok (.iconst 0, 1) := by decide +kernel
theorem dX2_readFood_156 : decode cX2_readFood 156 = .ok (.putfield 111, 3) := by decide +kernel
theorem dX2_readFood_159 : decode cX2_readFood 159 = .ok (.aload_n 0, 1) := by decide +kernel
theorem dX2_readFood_160 : decode cX2_readFood 160 = .ok (.invokevirtual 114, 3) := by decide +kernel
theorem dX2_readFood_163 : decode cX2_readFood 163 = .ok (.ifCond .ne 5, 3) := by decide +kernel
theorem dX2_readFood_166 : decode cX2_readFood 166 = .ok (.iconst 0, 1) := by decide +kernel
theorem dX2_readFood_167 : decode cX2_readFood 167 = .ok (.ireturn, 1) := by decide +kernel
theorem dX2_readFood_168 : decode cX2_readFood 168 = .ok (.aload_n 0, 1) := by decide +kernel
theorem dX2_readFood_169 : decode cX2_readFood 169 = .ok (.getfield 25, 3) := by decide +kernel
theorem dX2_readFood_172 : decode cX2_readFood 172 = .ok (.getfield 117, 3) := by decide +kernel
theorem dX2_readFood_175 : decode cX2_readFood 175 = .ok (.iload_n 1, 1) := by decide +kernel
theorem dX2_readFood_176 : decode cX2_readFood 176 = .ok (.aload_n 0, 1) := by decide +kernel
theorem dX2_readFood_177 : decode cX2_readFood 177 = .ok (.getfield 111, 3) := by decide +kernel
theorem dX2_readFood_180 : decode cX2_readFood 180 = .ok (.iastore, 1) := by decide +kernel
theorem dX2_readFood_181 : decode cX2_readFood 181 = .ok (.aload_n 0, 1) := by decide +kernel
theorem dX2_readFood_182 : decode cX2_readFood 182 = .ok (.getfield 25, 3) := by decide +kernel
theorem dX2_readFood_185 : decode cX2_readFood 185 = .ok (.getfield 86, 3) := by decide +kernel
theorem dX2_readFood_188 : decode cX2_readFood 188 = .ok (.lload_n 2, 1) := by decide +kernel
theorem dX2_readFood_189 : decode cX2_readFood 189 = .ok (.invokevirtual 120, 3) := by decide +kernel
theorem dX2_readFood_192 : decode cX2_readFood 192 = .ok (.aload_n 0, 1) := by decide +kernel
theorem dX2_readFood_193 : decode cX2_readFood 193 = .ok (.dup, 1) := by decide +kernel
theorem dX2_readFood_194 : decode cX2_readFood 194 = .ok (.getfield 33, 3) := by decide +kernel
theorem dX2_readFood_197 : decode cX2_readFood 197 = .ok (.iconst 1, 1) := by decide +kernel
theorem dX2_readFood_198 : decode cX2_readFood 198 = .ok (.iadd, 1) := by decide +kernel
theorem dX2_readFood_199 : decode cX2_readFood 199 = .ok (.putfield 33, 3) := by decide +kernel
theorem dX2_readFood_202 : decode cX2_readFood 202 = .ok (.iconst 1, 1) := by decide +kernel
theorem dX2_readFood_203 : decode cX2_readFood 203 = .ok (.ireturn, 1) := by decide +kernel
theorem dX2_readDish_0 : decode cX2_readDish 0 = .ok (.aload_n 0, 1) := by decide +kernel
theorem dX2_readDish_1 : decode cX2_readDish 1 = .ok (.getfield 25, 3) := by decide +kernel
theorem dX2_readDish_4 : decode cX2_readDish 4 = .ok (.getfield 68, 3) := by decide +kernel
theorem dX2_readDish_7 : decode cX2_readDish 7 = .ok (.getfield 74, 3) := by decide +kernel
theorem dX2_readDish_10 : decode cX2_readDish 10 = .ok (.istore_n 1, 1) := by decide +kernel
theorem dX2_readDish_11 : decode cX2_readDish 11 = .ok (.aload_n 0, 1) := by decide +kernel
theorem dX2_readDish_12 : decode cX2_readDish 12 = .ok (.getfield 25, 3) := by decide +kernel
theorem dX2_readDish_15 : decode cX2_readDish 15 = .ok (.getfield 68, 3) := by decide +kernel
theorem dX2_readDish_18 : decode cX2_readDish 18 = .ok (.invokevirtual 89, 3) := by decide +kernel
theorem dX2_readDish_21 : decode cX2_readDish 21 = .ok (.ifCond .ne 13, 3) := by decide +kernel
theorem dX2_readDish_24 : decode cX2_readDish 24 = .ok (.iload_n 1, 1) := by decide +kernel
theorem dX2_readDish_25 : decode cX2_readDish 25 = .ok (.ifCond .lt 9, 3) := by decide +kernel
theorem dX2_readDish_28 : decode cX2_readDish 28 = .ok (.iload_n 1, 1) := by decide +kernel
theorem dX2_readDish_29 : decode cX2_readDish 29 = .ok (.bipush 16, 2) := by decide +kernel
theorem dX2_readDish_31 : decode cX2_readDish 31 = .ok (.if_icmp .lt 13, 3) := by decide +kernel
theorem dX2_readDish_34 : decode cX2_readDish 34 = .ok (.aload_n 0, 1) := by decide +kernel
theorem dX2_readDish_35 : decode cX2_readDish 35 = .ok (.iconst 4, 1) := by decide +kernel
theorem dX2_readDish_36 : decode cX2_readDish 36 = .ok (.aload_n 0, 1) := by decide +kernel
theorem dX2_readDish_37 : decode cX2_readDish 37 = .ok (.getfield 33, 3) := by decide +kernel
theorem dX2_readDish_40 : decode cX2_readDish 40 = .ok (.invokevirtual 82, 3) := by decide +kernel
theorem dX2_readDish_43 : decode cX2_readDish 43 = .ok (.ireturn, 1) := by decide +kernel
theorem dX2_readDish_44 : decode cX2_readDish 44 = .ok (.aload_n 0, 1) := by decide +kernel
theorem dX2_readDish_45 : decode cX2_readDish 45 = .ok (.dup, 1) := by decide +kernel
theorem dX2_readDish_46 : decode cX2_readDish 46 = .ok (.getfield 33, 3) := by decide +kernel
theorem dX2_readDish_49 : decode cX2_readDish 49 = .ok (.iconst 1, 1) := by decide +kernel
theorem dX2_readDish_50 : decode cX2_readDish 50 = .ok (.iadd, 1) := by decide +kernel
theorem dX2_readDish_51 : decode cX2_readDish 51 = .ok (.putfield 33, 3) := by decide +kernel
theorem dX2_readDish_54 : decode cX2_readDish 54 = .ok (.aload_n 0, 1) := by decide +kernel
theorem dX2_readDish_55 : decode cX2_readDish 55 = .ok (.getfield 33, 3) := by decide +kernel
theorem dX2_readDish_58 : decode cX2_readDish 58 = .ok (.istore_n 2, 1) := by decide +kernel
theorem dX2_readDish_59 : decode cX2_readDish 59 = .ok (.aload_n 0, 1) := by decide +kernel
theorem dX2_readDish_60 : decode cX2_readDish 60 = .ok (.invokevirtual 96, 3) := by decide +kernel
theorem dX2_readDish_63 : decode cX2_readDish 63 = .ok (.ifCond .ne 5, 3) := by decide +kernel
theorem dX2_readDish_66 : decode cX2_readDish 66 = .ok (.iconst 0, 1) := by decide +kernel
theorem dX2_readDish_67 : decode cX2_readDish 67 = .ok (.ireturn, 1) := by decide +kernel
theorem dX2_readDish_68 : decode cX2_readDish 68 = .ok (.aload_n 0, 1) := by decide +kernel
theorem dX2_readDish_69 : decode cX2_readDish 69 = .ok (.dup, 1) := by decide +kernel
theorem dX2_readDish_70 : decode cX2_readDish 70 = .ok (.getfield 33, 3) := by decide +kernel
theorem dX2_readDish_73 : decode cX2_readDish 73 = .ok (.iconst 1, 1) := by decide +kernel
theorem dX2_readDish_74 : decode cX2_readDish 74 = .ok (.iadd, 1) := by decide +kernel
theorem dX2_readDish_75 : decode cX2_readDish 75 = .ok (.putfield 33, 3) := by decide +kernel
theorem dX2_readDish_78 : decode cX2_readDish 78 = .ok (.aload_n 0, 1) := by decide +kernel
theorem dX2_readDish_79 : decode cX2_readDish 79 = .ok (.iconst 1, 1) := by decide +kernel
theorem dX2_readDish_80 : decode cX2_readDish 80 = .ok (.bipush 20, 2) := by decide +kernel
theorem dX2_readDish_82 : decode cX2_readDish 82 = .ok (.invokevirtual 99, 3) := by decide +kernel
theorem dX2_readDish_85 : decode cX2_readDish 85 = .ok (.ifCond .ne 5, 3) := by decide +kernel
theorem dX2_readDish_88 : decode cX2_readDish 88 = .ok (.iconst 0, 1) := by decide +kernel
theorem dX2_readDish_89 : decode cX2_readDish 89 = .ok (.ireturn, 1) := by decide +kernel
theorem dX2_readDish_90 : decode cX2_readDish 90 = .ok (.aload_n 0, 1) := by decide +kernel
theorem dX2_readDish_91 : decode cX2_readDish 91 = .ok (.getfield 25, 3) := by decide +kernel
theorem dX2_readDish_94 : decode cX2_readDish 94 = .ok (.getfield 124, 3) := by decide +kernel
theorem dX2_readDish_97 : decode cX2_readDish 97 = .ok (.iload_n 1, 1) := by decide +kernel
theorem dX2_readDish_98 : decode cX2_readDish 98 = .ok (.aload_n 0, 1) := by decide +kernel
theorem dX2_readDish_99 : decode cX2_readDish 99 = .ok (.getfield 105, 3) := by decide +kernel
theorem dX2_readDish_102 : decode cX2_readDish 102 = .ok (.iastore, 1) := by decide +kernel
theorem dX2_readDish_103 : decode cX2_readDish 103 = .ok (.aload_n 0, 1) := by decide +kernel
theorem dX2_readDish_104 : decode cX2_readDish 104 = .ok (.iconst 0, 1) := by decide +kernel
theorem dX2_readDish_105 : decode cX2_readDish 105 = .ok (.putfield 111, 3) := by decide +kernel
theorem dX2_readDish_108 : decode cX2_readDish 108 = .ok (.aload_n 0, 1) := by decide +kernel
theorem dX2_readDish_109 : decode cX2_readDish 109 = .ok (.iload_n 1, 1) := by decide +kernel
theorem dX2_readDish_110 : decode cX2_readDish 110 = .ok (.invokevirtual 127, 3) := by decide +kernel
theorem dX2_readDish_113 : decode cX2_readDish 113 = .ok (.ifCond .eq 10, 3) := by decide +kernel
theorem dX2_readDish_116 : decode cX2_readDish 116 = .ok (.aload_n 0, 1) := by decide +kernel
theorem dX2_readDish_117 : decode cX2_readDish 117 = .ok (.invokevirtual 114, 3) := by decide +kernel
theorem dX2_readDish_120 : decode cX2_readDish 120 = .ok (.ifCond .ne 5, 3) := by decide +kernel
theorem dX2_readDish_123 : decode cX2_readDish 123 = .ok (.iconst 0, 1) := by decide +kernel
theorem dX2_readDish_124 : decode cX2_readDish 124 = .ok (.ireturn, 1) := by decide +kernel
theorem dX2_readDish_125 : decode cX2_readDish 125 = .ok (.aload_n 0, 1) := by decide +kernel
theorem dX2_readDish_126 : decode cX2_readDish 126 = .ok (.iload_n 1, 1) := by decide +kernel
theorem dX2_readDish_127 : decode cX2_readDish 127 = .ok (.invokevirtual 130, 3) := by decide +kernel
theorem dX2_readDish_130 : decode cX2_readDish 130 = .ok (.ifCond .eq 10, 3) := by decide +kernel
theorem dX2_readDish_133 : decode cX2_readDish 133 = .ok (.aload_n 0, 1) := by decide +kernel
theorem dX2_readDish_134 : decode cX2_readDish 134 = .ok (.iconst 5, 1) := by decide +kernel
theorem dX2_readDish_135 : decode cX2_readDish 135 = .ok (.iload_n 2, 1) := by decide +kernel
theorem dX2_readDish_136 : decode cX2_readDish 136 = .ok (.invokevirtual 82, 3) := by decide +kernel
theorem dX2_readDish_139 : decode cX2_readDish 139 = .ok (.ireturn, 1) := by decide +kernel
theorem dX2_readDish_140 : decode cX2_readDish 140 = .ok (.aload_n 0, 1) := by decide +kernel
theorem dX2_readDish_141 : decode cX2_readDish 141 = .ok (.iload_n 1, 1) := by decide +kernel
theorem dX2_readDish_142 : decode cX2_readDish 142 = .ok (.invokevirtual 133, 3) := by decide +kernel
theorem dX2_readDish_145 : decode cX2_readDish 145 = .ok (.aload_n 0, 1) := by decide +kernel
theorem dX2_readDish_146 : decode cX2_readDish 146 = .ok (.getfield 25, 3) := by decide +kernel
theorem dX2_readDish_149 : decode cX2_readDish 149 = .ok (.getfield 68, 3) := by decide +kernel
theorem dX2_readDish_152 : decode cX2_readDish 152 = .ok (.aload_n 0, 1) := by decide +kernel
theorem dX2_readDish_153 : decode cX2_readDish 153 = .ok (.getfield 21, 3) := by decide +kernel
theorem dX2_readDish_156 : decode cX2_readDish 156 = .ok (.iload_n 2, 1) := by decide +kernel
theorem dX2_readDish_157 : decode cX2_readDish 157 = .ok (.invokevirtual 92, 3) := by decide +kernel
theorem dX2_readDish_160 : decode cX2_readDish 160 = .ok (.invokevirtual 120, 3) := by decide +kernel
theorem dX2_readDish_163 : decode cX2_readDish 163 = .ok (.aload_n 0, 1) := by decide +kernel
theorem dX2_readDish_164 : decode cX2_readDish 164 = .ok (.dup, 1) := by decide +kernel
theorem dX2_readDish_165 : decode cX2_readDish 165 = .ok (.getfield 33, 3) := by decide +kernel
theorem dX2_readDish_168 : decode cX2_readDish 168 = .ok (.iconst 1, 1) := by decide +kernel
theorem dX2_readDish_169 : decode cX2_readDish 169 = .ok (.iadd, 1) := by decide +kernel
theorem dX2_readDish_170 : decode cX2_readDish 170 = .ok (.putfield 33, 3) := by decide +kernel
theorem dX2_readDish_173 : decode cX2_readDish 173 = .ok (.iconst 1, 1) := by decide +kernel
theorem dX2_readDish_174 : decode cX2_readDish 174 = .ok (.ireturn, 1) := by decide +kernel
theorem dX2_takeParts_0 : decode cX2_takeParts 0 = .ok (.aload_n 0, 1) := by decide +kernel
theorem dX2_takeParts_1 : decode cX2_takeParts 1 = .ok (.lconst 0, 1) := by decide +kernel
theorem dX2_takeParts_2 : decode cX2_takeParts 2 = .ok (.putfield 137, 3) := by decide +kernel
theorem dX2_takeParts_5 : decode cX2_takeParts 5 = .ok (.aload_n 0, 1) := by decide +kernel
theorem dX2_takeParts_6 : decode cX2_takeParts 6 = .ok (.lconst 0, 1) := by decide +kernel
theorem dX2_takeParts_7 : decode cX2_takeParts 7 = .ok (.putfield 141, 3) := by decide +kernel
theorem dX2_takeParts_10 : decode cX2_takeParts 10 = .ok (.iconst 0, 1) := by decide +kernel
theorem dX2_takeParts_11 : decode cX2_takeParts 11 = .ok (.istore_n 2, 1) := by decide +kernel
theorem dX2_takeParts_12 : decode cX2_takeParts 12 = .ok (.iload_n 2, 1) := by decide +kernel
theorem dX2_takeParts_13 : decode cX2_takeParts 13 = .ok (.bipush 16, 2) := by decide +kernel
theorem dX2_takeParts_15 : decode cX2_takeParts 15 = .ok (.if_icmp .ge 21, 3) := by decide +kernel
theorem dX2_takeParts_18 : decode cX2_takeParts 18 = .ok (.aload_n 0, 1) := by decide +kernel
theorem dX2_takeParts_19 : decode cX2_takeParts 19 = .ok (.getfield 25, 3) := by decide +kernel
theorem dX2_takeParts_22 : decode cX2_takeParts 22 = .ok (.getfield 144, 3) := by decide +kernel
theorem dX2_takeParts_25 : decode cX2_takeParts 25 = .ok (.iload_n 1, 1) := by decide +kernel
theorem dX2_takeParts_26 : decode cX2_takeParts 26 = .ok (.aaload, 1) := by decide +kernel
theorem dX2_takeParts_27 : decode cX2_takeParts 27 = .ok (.iload_n 2, 1) := by decide +kernel
theorem dX2_takeParts_28 : decode cX2_takeParts 28 = .ok (.iconst 0, 1) := by decide +kernel
theorem dX2_takeParts_29 : decode cX2_takeParts 29 = .ok (.iastore, 1) := by decide +kernel
theorem dX2_takeParts_30 : decode cX2_takeParts 30 = .ok (.iinc 2 1, 3) := by decide +kernel
theorem dX2_takeParts_33 : decode cX2_takeParts 33 = .ok (.goto (-21), 3) := by decide +kernel
theorem dX2_takeParts_36 : decode cX2_takeParts 36 = .ok (.iconst 1, 1) := by decide +kernel
theorem dX2_takeParts_37 : decode cX2_takeParts 37 = .ok (.istore_n 2, 1) := by decide +kernel
theorem dX2_takeParts_38 : decode cX2_takeParts 38 = .ok (.iconst 0, 1) := by decide +kernel
theorem dX2_takeParts_39 : decode cX2_takeParts 39 = .ok (.istore_n 3, 1) := by decide +kernel
theorem dX2_takeParts_40 : decode cX2_takeParts 40 = .ok (.iload_n 3, 1) := by decide +kernel
theorem dX2_takeParts_41 : decode cX2_takeParts 41 = .ok (.sipush 1500, 3) := by decide +kernel
theorem dX2_takeParts_44 : decode cX2_takeParts 44 = .ok (.if_icmp .ge 48, 3) := by decide +kernel
theorem dX2_takeParts_47 : decode cX2_takeParts 47 = .ok (.iload_n 2, 1) := by decide +kernel
theorem dX2_takeParts_48 : decode cX2_takeParts 48 = .ok (.ifCond .eq 44, 3) := by decide +kernel
theorem dX2_takeParts_51 : decode cX2_takeParts 51 = .ok (.aload_n 0, 1) := by decide +kernel
theorem dX2_takeParts_52 : decode cX2_takeParts 52 = .ok (.bipush 18, 2) := by decide +kernel
theorem dX2_takeParts_54 : decode cX2_takeParts 54 = .ok (.invokevirtual 47, 3) := by decide +kernel
theorem dX2_takeParts_57 : decode cX2_takeParts 57 = .ok (.ifCond .ne 12, 3) := by decide +kernel
theorem dX2_takeParts_60 : decode cX2_takeParts 60 = .ok (.aload_n 0, 1) := by decide +kernel
theorem dX2_takeParts_61 : decode cX2_takeParts 61 = .ok (.bipush 19, 2) := by decide +kernel
theorem dX2_takeParts_63 : decode cX2_takeParts 63 = .ok (.invokevirtual 47, 3) := by decide +kernel
theorem dX2_takeParts_66 : decode cX2_takeParts 66 = .ok (.ifCond .eq 26, 3) := by decide +kernel
theorem dX2_takeParts_69 : decode cX2_takeParts 69 = .ok (.aload_n 0, 1) := by decide +kernel
theorem dX2_takeParts_70 : decode cX2_takeParts 70 = .ok (.dup, 1) := by decide +kernel
theorem dX2_takeParts_71 : decode cX2_takeParts 71 = .ok (.getfield 33, 3) := by decide +kernel
theorem dX2_takeParts_74 : decode cX2_takeParts 74 = .ok (.iconst 1, 1) := by decide +kernel
theorem dX2_takeParts_75 : decode cX2_takeParts 75 = .ok (.iadd, 1) := by decide +kernel
theorem dX2_takeParts_76 : decode cX2_takeParts 76 = .ok (.putfield 33, 3) := by decide +kernel
theorem dX2_takeParts_79 : decode cX2_takeParts 79 = .ok (.aload_n 0, 1) := by decide +kernel
theorem dX2_takeParts_80 : decode cX2_takeParts 80 = .ok (.iload_n 1, 1) := by decide +kernel
theorem dX2_takeParts_81 : decode cX2_takeParts 81 = .ok (.iload_n 3, 1) := by decide +kernel
theorem dX2_takeParts_82 : decode cX2_takeParts 82 = .ok (.invokevirtual 148, 3) := by decide +kernel
theorem dX2_takeParts_85 : decode cX2_takeParts 85 = .ok (.istore_n 2, 1) := by decide +kernel
theorem dX2_takeParts_86 : decode cX2_takeParts 86 = .ok (.iinc 3 1, 3) := by decide +kernel
theorem dX2_takeParts_89 : decode cX2_takeParts 89 = .ok (.goto (-49), 3) := by decide +kernel
theorem dX2_takeParts_92 : decode cX2_takeParts 92 = .ok (.aload_n 0, 1) := by decide +kernel
theorem dX2_takeParts_93 : decode cX2_takeParts 93 = .ok (.getfield 25, 3) := by decide +kernel
theorem dX2_takeParts_96 : decode cX2_takeParts 96 = .ok (.getfield 151, 3) := by decide +kernel
theorem dX2_takeParts_99 : decode cX2_takeParts 99 = .ok (.iload_n 1, 1) := by decide +kernel
theorem dX2_takeParts_100 : decode cX2_takeParts 100 = .ok (.iload_n 3, 1) := by decide +kernel
theorem dX2_takeParts_101 : decode cX2_takeParts 101 = .ok (.iastore, 1) := by decide +kernel
theorem dX2_takeParts_102 : decode cX2_takeParts 102 = .ok (.iload_n 2, 1) := by decide +kernel
theorem dX2_takeParts_103 : decode cX2_takeParts 103 = .ok (.ireturn, 1) := by decide +kernel
theorem dX2_takePart_0 : decode cX2_takePart 0 = .ok (.iload_n 2, 1) := by decide +kernel
theorem dX2_takePart_1 : decode cX2_takePart 1 = .ok (.bipush 8, 2) := by decide +kernel
theorem dX2_takePart_3 : decode cX2_takePart 3 = .ok (.if_icmp .lt 13, 3) := by decide +kernel
theorem dX2_takePart_6 : decode cX2_takePart 6 = .ok (.aload_n 0, 1) := by decide +kernel
theorem dX2_takePart_7 : decode cX2_takePart 7 = .ok (.iconst 4, 1) := by decide +kernel
theorem dX2_takePart_8 : decode cX2_takePart 8 = .ok (.aload_n 0, 1) := by decide +kernel
theorem dX2_takePart_9 : decode cX2_takePart 9 = .ok (.getfield 33, 3) := by decide +kernel
theorem dX2_takePart_12 : decode cX2_takePart 12 = .ok (.invokevirtual 82, 3) := by decide +kernel
theorem dX2_takePart_15 : decode cX2_takePart 15 = .ok (.ireturn, 1) := by decide +kernel
theorem dX2_takePart_16 : decode cX2_takePart 16 = .ok (.aload_n 0, 1) := by decide +kernel
theorem dX2_takePart_17 : decode cX2_takePart 17 = .ok (.iconst 1, 1) := by decide +kernel
theorem dX2_takePart_18 : decode cX2_takePart 18 = .ok (.sipush 2000, 3) := by decide +kernel
theorem dX2_takePart_21 : decode cX2_takePart 21 = .ok (.invokevirtual 99, 3) := by decide +kernel
theorem dX2_takePart_24 : decode cX2_takePart 24 = .ok (.ifCond .ne 5, 3) := by decide +kernel
theorem dX2_takePart_27 : decode cX2_takePart 27 = .ok (.iconst 0, 1) := by decide +kernel
theorem dX2_takePart_28 : decode cX2_takePart 28 = .ok (.ireturn, 1) := by decide +kernel
theorem dX2_takePart_29 : decode cX2_takePart 29 = .ok (.aload_n 0, 1) := by decide +kernel
theorem dX2_takePart_30 : decode cX2_takePart 30 = .ok (.iconst 4, 1) := by decide +kernel
theorem dX2_takePart_31 : decode cX2_takePart 31 = .ok (.invokevirtual 47, 3) := by decide +kernel
theorem dX2_takePart_34 : decode cX2_takePart 34 = .ok (.istore_n 3, 1) := by decide +kernel
theorem dX2_takePart_35 : decode cX2_takePart 35 = .ok (.iload_n 3, 1) := by decide +kernel
theorem dX2_takePart_36 : decode cX2_takePart 36 = .ok (.ifCond .eq 13, 3) := by decide +kernel
theorem dX2_takePart_39 : decode cX2_takePart 39 = .ok (.aload_n 0, 1) := by decide +kernel
theorem dX2_takePart_40 : decode cX2_takePart 40 = .ok (.dup, 1) := by decide +kernel
theorem dX2_takePart_41 : decode cX2_takePart 41 = .ok (.getfield 33, 3) := by decide +kernel
theorem dX2_takePart_44 : decode cX2_takePart 44 = .ok (.iconst 1, 1) := by decide +kernel
theorem dX2_takePart_45 : decode cX2_takePart 45 = .ok (.iadd, 1) := by decide +kernel
theorem dX2_takePart_46 : decode cX2_takePart 46 = .ok (.putfield 33, 3) := by decide +kernel
theorem dX2_takePart_49 : decode cX2_takePart 49 = .ok (.iload_n 3, 1) := by decide +kernel
theorem dX2_takePart_50 : decode cX2_takePart 50 = .ok (.ifCond .eq 13, 3) := by decide +kernel
theorem dX2_takePart_53 : decode cX2_takePart 53 = .ok (.aload_n 0, 1) := by decide +kernel
theorem dX2_takePart_54 : decode cX2_takePart 54 = .ok (.getfield 25, 3) := by decide +kernel
theorem dX2_takePart_57 : decode cX2_takePart 57 = .ok (.getfield 68, 3) := by decide +kernel
theorem dX2_takePart_60 : decode cX2_takePart 60 = .ok (.goto 10, 3) := by decide +kernel
theorem dX2_takePart_63 : decode cX2_takePart 63 = .ok (.aload_n 0, 1) := by decide +kernel
theorem dX2_takePart_64 : decode cX2_takePart 64 = .ok (.getfield 25, 3) := by decide +kernel
theorem dX2_takePart_67 : decode cX2_takePart 67 = .ok (.getfield 86, 3) := by decide +kernel
theorem dX2_takePart_70 : decode cX2_takePart 70 = .ok (.astore 4, 2) := by decide +kernel
theorem dX2_takePart_72 : decode cX2_takePart 72 = .ok (.aload 4, 2) := by decide +kernel
theorem dX2_takePart_74 : decode cX2_takePart 74 = .ok (.aload_n 0, 1) := by decide +kernel
theorem dX2_takePart_75 : decode cX2_takePart 75 = .ok (.getfield 21, 3) := by decide +kernel
theorem dX2_takePart_78 : decode cX2_takePart 78 = .ok (.aload_n 0, 1) := by decide +kernel
theorem dX2_takePart_79 : decode cX2_takePart 79 = .ok (.getfield 33, 3) := by decide +kernel
theorem dX2_takePart_82 : decode cX2_takePart 82 = .ok (.invokevirtual 92, 3) := by decide +kernel
theorem dX2_takePart_85 : decode cX2_takePart 85 = .ok (.invokevirtual 154, 3) := by decide +kernel
theorem dX2_takePart_88 : decode cX2_takePart 88 = .ok (.istore 5, 2) := by decide +kernel
theorem dX2_takePart_90 : decode cX2_takePart 90 = .ok (.iload 5, 2) := by decide +kernel
theorem dX2_takePart_92 : decode cX2_takePart 92 = .ok (.iconst (-1), 1) := by decide +kernel
theorem dX2_takePart_93 : decode cX2_takePart 93 = .ok (.if_icmp .ne 13, 3) := by decide +kernel
theorem dX2_takePart_96 : decode cX2_takePart 96 = .ok (.aload_n 0, 1) := by decide +kernel
theorem dX2_takePart_97 : decode cX2_takePart 97 = .ok (.iconst 2, 1) := by decide +kernel
theorem dX2_takePart_98 : decode cX2_takePart 98 = .ok (.aload_n 0, 1) := by decide +kernel
theorem dX2_takePart_99 : decode cX2_takePart 99 = .ok (.getfield 33, 3) := by decide +kernel
theorem dX2_takePart_102 : decode cX2_takePart 102 = .ok (.invokevirtual 82, 3) := by decide +kernel
theorem dX2_takePart_105 : decode cX2_takePart 105 = .ok (.ireturn, 1) := by decide +kernel
theorem dX2_takePart_106 : decode cX2_takePart 106 = .ok (.aload_n 0, 1) := by decide +kernel
theorem dX2_takePart_107 : decode cX2_takePart 107 = .ok (.dup, 1) := by decide +kernel
theorem dX2_takePart_108 : decode cX2_takePart 108 = .ok (.getfield 33, 3) := by decide +kernel
theorem dX2_takePart_111 : decode cX2_takePart 111 = .ok (.iconst 1, 1) := by decide +kernel
theorem dX2_takePart_112 : decode cX2_takePart 112 = .ok (.iadd, 1) := by decide +kernel
theorem dX2_takePart_113 : decode cX2_takePart 113 = .ok (.putfield 33, 3) := by decide +kernel
theorem dX2_takePart_116 : decode cX2_takePart 116 = .ok (.iload_n 3, 1) := by decide +kernel
theorem dX2_takePart_117 : decode cX2_takePart 117 = .ok (.ifCond .eq 13, 3) := by decide +kernel
theorem dX2_takePart_120 : decode cX2_takePart 120 = .ok (.aload_n 0, 1) := by decide +kernel
theorem dX2_takePart_121 : decode cX2_takePart 121 = .ok (.iload_n 1, 1) := by decide +kernel
theorem dX2_takePart_122 : decode cX2_takePart 122 = .ok (.iload 5, 2) := by decide +kernel
theorem dX2_takePart_124 : decode cX2_takePart 124 = .ok (.invokevirtual 158, 3) := by decide +kernel
theorem dX2_takePart_127 : decode cX2_takePart 127 = .ok (.goto 10, 3) := by decide +kernel
theorem dX2_takePart_130 : decode cX2_takePart 130 = .ok (.aload_n 0, 1) := by decide +kernel
theorem dX2_takePart_131 : decode cX2_takePart 131 = .ok (.iload_n 1, 1) := by decide +kernel
theorem dX2_takePart_132 : decode cX2_takePart 132 = .ok (.iload 5, 2) := by decide +kernel
theorem dX2_takePart_134 : decode cX2_takePart 134 = .ok (.invokevirtual 162, 3) := by decide +kernel
theorem dX2_takePart_137 : decode cX2_takePart 137 = .ok (.iconst 1, 1) := by decide +kernel
theorem dX2_takePart_138 : decode cX2_takePart 138 = .ok (.ireturn, 1) := by decide +kernel
theorem dX2_addFood_0 : decode cX2_addFood 0 = .ok (.aload_n 0, 1) := by decide +kernel
theorem dX2_addFood_1 : decode cX2_addFood 1 = .ok (.getfield 25, 3) := by decide +kernel
theorem dX2_addFood_4 : decode cX2_addFood 4 = .ok (.getfield 144, 3) := by decide +kernel
theorem dX2_addFood_7 : decode cX2_addFood 7 = .ok (.iload_n 1, 1) := by decide +kernel
theorem dX2_addFood_8 : decode cX2_addFood 8 = .ok (.aaload, 1) := by decide +kernel
theorem dX2_addFood_9 : decode cX2_addFood 9 = .ok (.iload_n 2, 1) := by decide +kernel
theorem dX2_addFood_10 : decode cX2_addFood 10 = .ok (.dup2, 1) := by decide +kernel
theorem dX2_addFood_11 : decode cX2_addFood 11 = .ok (.iaload, 1) := by decide +kernel
theorem dX2_addFood_12 : decode cX2_addFood 12 = .ok (.aload_n 0, 1) := by decide +kernel
theorem dX2_addFood_13 : decode cX2_addFood 13 = .ok (.getfield 105, 3) := by decide +kernel
theorem dX2_addFood_16 : decode cX2_addFood 16 = .ok (.iadd, 1) := by decide +kernel
theorem dX2_addFood_17 : decode cX2_addFood 17 = .ok (.iastore, 1) := by decide +kernel
theorem dX2_addFood_18 : decode cX2_addFood 18 = .ok (.aload_n 0, 1) := by decide +kernel
theorem dX2_addFood_19 : decode cX2_addFood 19 = .ok (.dup, 1) := by decide +kernel
theorem dX2_addFood_20 : decode cX2_addFood 20 = .ok (.getfield 137, 3) := by decide +kernel
theorem dX2_addFood_23 : decode cX2_addFood 23 = .ok (.aload_n 0, 1) := by decide +kernel
theorem dX2_addFood_24 : decode cX2_addFood 24 = .ok (.getfield 105, 3) := by decide +kernel
theorem dX2_addFood_27 : decode cX2_addFood 27 = .ok (.aload_n 0, 1) := by decide +kernel
theorem dX2_addFood_28 : decode cX2_addFood 28 = .ok (.getfield 25, 3) := by decide +kernel
theorem dX2_addFood_31 : decode cX2_addFood 31 = .ok (.getfield 102, 3) := by decide +kernel
theorem dX2_addFood_34 : decode cX2_addFood 34 = .ok (.iload_n 2, 1) := by decide +kernel
theorem dX2_addFood_35 : decode cX2_addFood 35 = .ok (.iaload, 1) := by decide +kernel
theorem dX2_addFood_36 : decode cX2_addFood 36 = .ok (.imul, 1) := by decide +kernel
theorem dX2_addFood_37 : decode cX2_addFood 37 = .ok (.bipush 100, 2) := by decide +kernel
theorem dX2_addFood_39 : decode cX2_addFood 39 = .ok (.idiv, 1) := by decide +kernel
theorem dX2_addFood_40 : decode cX2_addFood 40 = .ok (.i2l, 1) := by decide +kernel
theorem dX2_addFood_41 : decode cX2_addFood 41 = .ok (.ladd, 1) := by decide +kernel
theorem dX2_addFood_42 : decode cX2_addFood 42 = .ok (.putfield 137, 3) := by decide +kernel
theorem dX2_addFood_45 : decode cX2_addFood 45 = .ok (.aload_n 0, 1) := by decide +kernel
theorem dX2_addFood_46 : decode cX2_addFood 46 = .ok (.dup, 1) := by decide +kernel
theorem dX2_addFood_47 : decode cX2_addFood 47 = .ok (.getfield 141, 3) := by decide +kernel
theorem dX2_addFood_50 : decode cX2_addFood 50 = .ok (.aload_n 0, 1) := by decide +kernel
theorem dX2_addFood_51 : decode cX2_addFood 51 = .ok (.getfield 105, 3) := by decide +kernel
theorem dX2_addFood_54 : decode cX2_addFood 54 = .ok (.aload_n 0, 1) := by decide +kernel
theorem dX2_addFood_55 : decode cX2_addFood 55 = .ok (.getfield 25, 3) := by decide +kernel
theorem dX2_addFood_58 : decode cX2_addFood 58 = .ok (.getfield 108, 3) := by decide +kernel
theorem dX2_addFood_61 : decode cX2_addFood 61 = .ok (.iload_n 2, 1) := by decide +kernel
theorem dX2_addFood_62 : decode cX2_addFood 62 = .ok (.iaload, 1) := by decide +kernel
theorem dX2_addFood_63 : decode cX2_addFood 63 = .ok (.imul, 1) := by decide +kernel
theorem dX2_addFood_64 : decode cX2_addFood 64 = .ok (.bipush 100, 2) := by decide +kernel
theorem dX2_addFood_66 : decode cX2_addFood 66 = .ok (.idiv, 1) := by decide +kernel
theorem dX2_addFood_67 : decode cX2_addFood 67 = .ok (.i2l, 1) := by decide +kernel
theorem dX2_addFood_68 : decode cX2_addFood 68 = .ok (.ladd, 1) := by decide +kernel
theorem dX2_addFood_69 : decode cX2_addFood 69 = .ok (.putfield 141, 3) := by decide +kernel
theorem dX2_addFood_72 : decode cX2_addFood 72 = .ok (.aload_n 0, 1) := by decide +kernel
theorem dX2_addFood_73 : decode cX2_addFood 73 = .ok (.dup, 1) := by decide +kernel
theorem dX2_addFood_74 : decode cX2_addFood 74 = .ok (.getfield 111, 3) := by decide +kernel
theorem dX2_addFood_77 : decode cX2_addFood 77 = .ok (.aload_n 0, 1) := by decide +kernel
theorem dX2_addFood_78 : decode cX2_addFood 78 = .ok (.getfield 25, 3) := by decide +kernel
theorem dX2_addFood_81 : decode cX2_addFood 81 = .ok (.getfield 117, 3) := by decide +kernel
theorem dX2_addFood_84 : decode cX2_addFood 84 = .ok (.iload_n 2, 1) := by decide +kernel
theorem dX2_addFood_85 : decode cX2_addFood 85 = .ok (.iaload, 1) := by decide +kernel
theorem dX2_addFood_86 : decode cX2_addFood 86 = .ok (.ior, 1) := by decide +kernel
theorem dX2_addFood_87 : decode cX2_addFood 87 = .ok (.putfield 111, 3) := by decide +kernel
theorem dX2_addFood_90 : decode cX2_addFood 90 = .ok (.return_, 1) := by decide +kernel
theorem dX2_addDish_0 : decode cX2_addDish 0 = .ok (.iconst 0, 1) := by decide +kernel
theorem dX2_addDish_1 : decode cX2_addDish 1 = .ok (.istore_n 3, 1) := by decide +kernel
theorem dX2_addDish_2 : decode cX2_addDish 2 = .ok (.iload_n 3, 1) := by decide +kernel
theorem dX2_addDish_3 : decode cX2_addDish 3 = .ok (.aload_n 0, 1) := by decide +kernel
theorem dX2_addDish_4 : decode cX2_addDish 4 = .ok (.getfield 25, 3) := by decide +kernel
theorem dX2_addDish_7 : decode cX2_addDish 7 = .ok (.getfield 86, 3) := by decide +kernel
theorem dX2_addDish_10 : decode cX2_addDish 10 = .ok (.getfield 74, 3) := by decide +kernel
theorem dX2_addDish_13 : decode cX2_addDish 13 = .ok (.if_icmp .ge 43, 3) := by decide +kernel
theorem dX2_addDish_16 : decode cX2_addDish 16 = .ok (.iload_n 3, 1) := by decide +kernel
theorem dX2_addDish_17 : decode cX2_addDish 17 = .ok (.bipush 16, 2) := by decide +kernel
theorem dX2_addDish_19 : decode cX2_addDish 19 = .ok (.if_icmp .ge 37, 3) := by decide +kernel
theorem dX2_addDish_22 : decode cX2_addDish 22 = .ok (.aload_n 0, 1) := by decide +kernel
theorem dX2_addDish_23 : decode cX2_addDish 23 = .ok (.getfield 25, 3) := by decide +kernel
theorem dX2_addDish_26 : decode cX2_addDish 26 = .ok (.getfield 144, 3) := by decide +kernel
theorem dX2_addDish_29 : decode cX2_addDish 29 = .ok (.iload_n 1, 1) := by decide +kernel
theorem dX2_addDish_30 : decode cX2_addDish 30 = .ok (.aaload, 1) := by decide +kernel
theorem dX2_addDish_31 : decode cX2_addDish 31 = .ok (.iload_n 3, 1) := by decide +kernel
theorem dX2_addDish_32 : decode cX2_addDish 32 = .ok (.dup2, 1) := by decide +kernel
theorem dX2_addDish_33 : decode cX2_addDish 33 = .ok (.iaload, 1) := by decide +kernel
theorem dX2_addDish_34 : decode cX2_addDish 34 = .ok (.aload_n 0, 1) := by decide +kernel
theorem dX2_addDish_35 : decode cX2_addDish 35 = .ok (.getfield 25, 3) := by decide +kernel
theorem dX2_addDish_38 : decode cX2_addDish 38 = .ok (.aload_n 0, 1) := by decide +kernel
theorem dX2_addDish_39 : decode cX2_addDish 39 = .ok (.getfield 105, 3) := by decide +kernel
theorem dX2_addDish_42 : decode cX2_addDish 42 = .ok (.iload_n 2, 1) := by decide +kernel
theorem dX2_addDish_43 : decode cX2_addDish 43 = .ok (.iload_n 3, 1) := by decide +kernel
theorem dX2_addDish_44 : decode cX2_addDish 44 = .ok (.invokevirtual 165, 3) := by decide +kernel
theorem dX2_addDish_47 : decode cX2_addDish 47 = .ok (.l2i, 1) := by decide +kernel
theorem dX2_addDish_48 : decode cX2_addDish 48 = .ok (.iadd, 1) := by decide +kernel
theorem dX2_addDish_49 : decode cX2_addDish 49 = .ok (.iastore, 1) := by decide +kernel
theorem dX2_addDish_50 : decode cX2_addDish 50 = .ok (.iinc 3 1, 3) := by decide +kernel
theorem dX2_addDish_53 : decode cX2_addDish 53 = .ok (.goto (-51), 3) := by decide +kernel
theorem dX2_addDish_56 : decode cX2_addDish 56 = .ok (.aload_n 0, 1) := by decide +kernel
theorem dX2_addDish_57 : decode cX2_addDish 57 = .ok (.dup, 1) := by decide +kernel
theorem dX2_addDish_58 : decode cX2_addDish 58 = .ok (.getfield 137, 3) := by decide +kernel
theorem dX2_addDish_61 : decode cX2_addDish 61 = .ok (.aload_n 0, 1) := by decide +kernel
theorem dX2_addDish_62 : decode cX2_addDish 62 = .ok (.getfield 105, 3) := by decide +kernel
theorem dX2_addDish_65 : decode cX2_addDish 65 = .ok (.i2l, 1) := by decide +kernel
theorem dX2_addDish_66 : decode cX2_addDish 66 = .ok (.aload_n 0, 1) := by decide +kernel
theorem dX2_addDish_67 : decode cX2_addDish 67 = .ok (.getfield 25, 3) := by decide +kernel
theorem dX2_addDish_70 : decode cX2_addDish 70 = .ok (.getfield 169, 3) := by decide +kernel
theorem dX2_addDish_73 : decode cX2_addDish 73 = .ok (.iload_n 2, 1) := by decide +kernel
theorem dX2_addDish_74 : decode cX2_addDish 74 = .ok (.iaload, 1) := by decide +kernel
theorem dX2_addDish_75 : decode cX2_addDish 75 = .ok (.i2l, 1) := by decide +kernel
theorem dX2_addDish_76 : decode cX2_addDish 76 = .ok (.lmul, 1) := by decide +kernel
theorem dX2_addDish_77 : decode cX2_addDish 77 = .ok (.ladd, 1) := by decide +kernel
theorem dX2_addDish_78 : decode cX2_addDish 78 = .ok (.putfield 137, 3) := by decide +kernel
theorem dX2_addDish_81 : decode cX2_addDish 81 = .ok (.aload_n 0, 1) := by decide +kernel
theorem dX2_addDish_82 : decode cX2_addDish 82 = .ok (.dup, 1) := by decide +kernel
theorem dX2_addDish_83 : decode cX2_addDish 83 = .ok (.getfield 141, 3) := by decide +kernel
theorem dX2_addDish_86 : decode cX2_addDish 86 = .ok (.aload_n 0, 1) := by decide +kernel
theorem dX2_addDish_87 : decode cX2_addDish 87 = .ok (.getfield 105, 3) := by decide +kernel
theorem dX2_addDish_90 : decode cX2_addDish 90 = .ok (.i2l, 1) := by decide +kernel
theorem dX2_addDish_91 : decode cX2_addDish 91 = .ok (.aload_n 0, 1) := by decide +kernel
theorem dX2_addDish_92 : decode cX2_addDish 92 = .ok (.getfield 25, 3) := by decide +kernel
theorem dX2_addDish_95 : decode cX2_addDish 95 = .ok (.getfield 172, 3) := by decide +kernel
theorem dX2_addDish_98 : decode cX2_addDish 98 = .ok (.iload_n 2, 1) := by decide +kernel
theorem dX2_addDish_99 : decode cX2_addDish 99 = .ok (.iaload, 1) := by decide +kernel
theorem dX2_addDish_100 : decode cX2_addDish 100 = .ok (.i2l, 1) := by decide +kernel
theorem dX2_addDish_101 : decode cX2_addDish 101 = .ok (.lmul, 1) := by decide +kernel
theorem dX2_addDish_102 : decode cX2_addDish 102 = .ok (.ladd, 1) := by decide +kernel
theorem dX2_addDish_103 : decode cX2_addDish 103 = .ok (.putfield 141, 3) := by decide +kernel
theorem dX2_addDish_106 : decode cX2_addDish 106 = .ok (.aload_n 0, 1) := by decide +kernel
theorem dX2_addDish_107 : decode cX2_addDish 107 = .ok (.dup, 1) := by decide +kernel
theorem dX2_addDish_108 : decode cX2_addDish 108 = .ok (.getfield 111, 3) := by decide +kernel
theorem dX2_addDish_111 : decode cX2_addDish 111 = .ok (.aload_n 0, 1) := by decide +kernel
theorem dX2_addDish_112 : decode cX2_addDish 112 = .ok (.getfield 25, 3) := by decide +kernel
theorem dX2_addDish_115 : decode cX2_addDish 115 = .ok (.getfield 175, 3) := by decide +kernel
theorem dX2_addDish_118 : decode cX2_addDish 118 = .ok (.iload_n 2, 1) := by decide +kernel
theorem dX2_addDish_119 : decode cX2_addDish 119 = .ok (.iaload, 1) := by decide +kernel
theorem dX2_addDish_120 : decode cX2_addDish 120 = .ok (.ior, 1) := by decide +kernel
theorem dX2_addDish_121 : decode cX2_addDish 121 = .ok (.putfield 111, 3) := by decide +kernel
theorem dX2_addDish_124 : decode cX2_addDish 124 = .ok (.return_, 1) := by decide +kernel
theorem dX2_isTooMuch_0 : decode cX2_isTooMuch 0 = .ok (.lconst 0, 1) := by decide +kernel
theorem dX2_isTooMuch_1 : decode cX2_isTooMuch 1 = .ok (.lstore_n 2, 1) := by decide +kernel
theorem dX2_isTooMuch_2 : decode cX2_isTooMuch 2 = .ok (.iconst 0, 1) := by decide +kernel
theorem dX2_isTooMuch_3 : decode cX2_isTooMuch 3 = .ok (.istore 4, 2) := by decide +kernel
theorem dX2_isTooMuch_5 : decode cX2_isTooMuch 5 = .ok (.iload 4, 2) := by decide +kernel
theorem dX2_isTooMuch_7 : decode cX2_isTooMuch 7 = .ok (.bipush 16, 2) := by decide +kernel
theorem dX2_isTooMuch_9 : decode cX2_isTooMuch 9 = .ok (.if_icmp .ge 25, 3) := by decide +kernel
theorem dX2_isTooMuch_12 : decode cX2_isTooMuch 12 = .ok (.lload_n 2, 1) := by decide +kernel
theorem dX2_isTooMuch_13 : decode cX2_isTooMuch 13 = .ok (.aload_n 0, 1) := by decide +kernel
theorem dX2_isTooMuch_14 : decode cX2_isTooMuch 14 = .ok (.getfield 25, 3) := by decide +kernel
theorem dX2_isTooMuch_17 : decode cX2_isTooMuch 17 = .ok (.getfield 144, 3) := by decide +kernel
theorem dX2_isTooMuch_20 : decode cX2_isTooMuch 20 = .ok (.iload_n 1, 1) := by decide +kernel
theorem dX2_isTooMuch_21 : decode cX2_isTooMuch 21 = .ok (.aaload, 1) := by decide +kernel
theorem dX2_isTooMuch_22 : decode cX2_isTooMuch 22 = .ok (.iload 4, 2) := by decide +kernel
theorem dX2_isTooMuch_24 : decode cX2_isTooMuch 24 = .ok (.iaload, 1) := by decide +kernel
theorem dX2_isTooMuch_25 : decode cX2_isTooMuch 25 = .ok (.i2l, 1) := by decide +kernel
theorem dX2_isTooMuch_26 : decode cX2_isTooMuch 26 = .ok (.ladd, 1) := by decide +kernel
theorem dX2_isTooMuch_27 : decode cX2_isTooMuch 27 = .ok (.lstore_n 2, 1) := by decide +kernel
theorem dX2_isTooMuch_28 : decode cX2_isTooMuch 28 = .ok (.iinc 4 1, 3) := by decide +kernel
theorem dX2_isTooMuch_31 : decode cX2_isTooMuch 31 = .ok (.goto (-26), 3) := by decide +kernel
theorem dX2_isTooMuch_34 : decode cX2_isTooMuch 34 = .ok (.lload_n 2, 1) := by decide +kernel
theorem dX2_isTooMuch_35 : decode cX2_isTooMuch 35 = .ok (.ldc2_w 178, 3) := by decide +kernel
theorem dX2_isTooMuch_38 : decode cX2_isTooMuch 38 = .ok (.lcmp, 1) := by decide +kernel
theorem dX2_isTooMuch_39 : decode cX2_isTooMuch 39 = .ok (.ifCond .gt 25, 3) := by decide +kernel
theorem dX2_isTooMuch_42 : decode cX2_isTooMuch 42 = .ok (.aload_n 0, 1) := by decide +kernel
theorem dX2_isTooMuch_43 : decode cX2_isTooMuch 43 = .ok (.getfield 137, 3) := by decide +kernel
theorem dX2_isTooMuch_46 : decode cX2_isTooMuch 46 = .ok (.ldc2_w 180, 3) := by decide +kernel
theorem dX2_isTooMuch_49 : decode cX2_isTooMuch 49 = .ok (.lcmp, 1) := by decide +kernel
theorem dX2_isTooMuch_50 : decode cX2_isTooMuch 50 = .ok (.ifCond .gt 14, 3) := by decide +kernel
theorem dX2_isTooMuch_53 : decode cX2_isTooMuch 53 = .ok (.aload_n 0, 1) := by decide +kernel
theorem dX2_isTooMuch_54 : decode cX2_isTooMuch 54 = .ok (.getfield 141, 3) := by decide +kernel
theorem dX2_isTooMuch_57 : decode cX2_isTooMuch 57 = .ok (.ldc2_w 180, 3) := by decide +kernel
theorem dX2_isTooMuch_60 : decode cX2_isTooMuch 60 = .ok (.lcmp, 1) := by decide +kernel
theorem dX2_isTooMuch_61 : decode cX2_isTooMuch 61 = .ok (.ifCond .le 7, 3) := by decide +kernel
theorem dX2_isTooMuch_64 : decode cX2_isTooMuch 64 = .ok (.iconst 1, 1) := by decide +kernel
theorem dX2_isTooMuch_65 : decode cX2_isTooMuch 65 = .ok (.goto 4, 3) := by decide +kernel
theorem dX2_isTooMuch_68 : decode cX2_isTooMuch 68 = .ok (.iconst 0, 1) := by decide +kernel
theorem dX2_isTooMuch_69 : decode cX2_isTooMuch 69 = .ok (.ireturn, 1) := by decide +kernel
theorem dX2_tellDish_0 : decode cX2_tellDish 0 = .ok (.aload_n 0, 1) := by decide +kernel
theorem dX2_tellDish_1 : decode cX2_tellDish 1 = .ok (.getfield 25, 3) := by decide +kernel
theorem dX2_tellDish_4 : decode cX2_tellDish 4 = .ok (.getfield 124, 3) := by decide +kernel
theorem dX2_tellDish_7 : decode cX2_tellDish 7 = .ok (.iload_n 1, 1) := by decide +kernel
theorem dX2_tellDish_8 : decode cX2_tellDish 8 = .ok (.iaload, 1) := by decide +kernel
theorem dX2_tellDish_9 : decode cX2_tellDish 9 = .ok (.istore_n 2, 1) := by decide +kernel
theorem dX2_tellDish_10 : decode cX2_tellDish 10 = .ok (.iload_n 2, 1) := by decide +kernel
theorem dX2_tellDish_11 : decode cX2_tellDish 11 = .ok (.ifCond .le 37, 3) := by decide +kernel
theorem dX2_tellDish_14 : decode cX2_tellDish 14 = .ok (.aload_n 0, 1) := by decide +kernel
theorem dX2_tellDish_15 : decode cX2_tellDish 15 = .ok (.getfield 25, 3) := by decide +kernel
theorem dX2_tellDish_18 : decode cX2_tellDish 18 = .ok (.getfield 169, 3) := by decide +kernel
theorem dX2_tellDish_21 : decode cX2_tellDish 21 = .ok (.iload_n 1, 1) := by decide +kernel
theorem dX2_tellDish_22 : decode cX2_tellDish 22 = .ok (.aload_n 0, 1) := by decide +kernel
theorem dX2_tellDish_23 : decode cX2_tellDish 23 = .ok (.getfield 137, 3) := by decide +kernel
theorem dX2_tellDish_26 : decode cX2_tellDish 26 = .ok (.iload_n 2, 1) := by decide +kernel
theorem dX2_tellDish_27 : decode cX2_tellDish 27 = .ok (.i2l, 1) := by decide +kernel
theorem dX2_tellDish_28 : decode cX2_tellDish 28 = .ok (.ldiv, 1) := by decide +kernel
theorem dX2_tellDish_29 : decode cX2_tellDish 29 = .ok (.l2i, 1) := by decide +kernel
theorem dX2_tellDish_30 : decode cX2_tellDish 30 = .ok (.iastore, 1) := by decide +kernel
theorem dX2_tellDish_31 : decode cX2_tellDish 31 = .ok (.aload_n 0, 1) := by decide +kernel
theorem dX2_tellDish_32 : decode cX2_tellDish 32 = .ok (.getfield 25, 3) := by decide +kernel
theorem dX2_tellDish_35 : decode cX2_tellDish 35 = .ok (.getfield 172, 3) := by decide +kernel
theorem dX2_tellDish_38 : decode cX2_tellDish 38 = .ok (.iload_n 1, 1) := by decide +kernel
theorem dX2_tellDish_39 : decode cX2_tellDish 39 = .ok (.aload_n 0, 1) := by decide +kernel
theorem dX2_tellDish_40 : decode cX2_tellDish 40 = .ok (.getfield 141, 3) := by decide +kernel
theorem dX2_tellDish_43 : decode cX2_tellDish 43 = .ok (.iload_n 2, 1) := by decide +kernel
theorem dX2_tellDish_44 : decode cX2_tellDish 44 = .ok (.i2l, 1) := by decide +kernel
theorem dX2_tellDish_45 : decode cX2_tellDish 45 = .ok (.ldiv, 1) := by decide +kernel
theorem dX2_tellDish_46 : decode cX2_tellDish 46 = .ok (.l2i, 1) := by decide +kernel
theorem dX2_tellDish_47 : decode cX2_tellDish 47 = .ok (.iastore, 1) := by decide +kernel
theorem dX2_tellDish_48 : decode cX2_tellDish 48 = .ok (.aload_n 0, 1) := by decide +kernel
theorem dX2_tellDish_49 : decode cX2_tellDish 49 = .ok (.getfield 25, 3) := by decide +kernel
theorem dX2_tellDish_52 : decode cX2_tellDish 52 = .ok (.getfield 175, 3) := by decide +kernel
theorem dX2_tellDish_55 : decode cX2_tellDish 55 = .ok (.iload_n 1, 1) := by decide +kernel
theorem dX2_tellDish_56 : decode cX2_tellDish 56 = .ok (.aload_n 0, 1) := by decide +kernel
theorem dX2_tellDish_57 : decode cX2_tellDish 57 = .ok (.getfield 111, 3) := by decide +kernel
theorem dX2_tellDish_60 : decode cX2_tellDish 60 = .ok (.iastore, 1) := by decide +kernel
theorem dX2_tellDish_61 : decode cX2_tellDish 61 = .ok (.return_, 1) := by decide +kernel
theorem dX2_takeTags_0 : decode cX2_takeTags 0 = .ok (.iconst 0, 1) := by decide +kernel
theorem dX2_takeTags_1 : decode cX2_takeTags 1 = .ok (.istore_n 1, 1) := by decide +kernel
theorem dX2_takeTags_2 : decode cX2_takeTags 2 = .ok (.iload_n 1, 1) := by decide +kernel
theorem dX2_takeTags_3 : decode cX2_takeTags 3 = .ok (.sipush 1500, 3) := by decide +kernel
theorem dX2_takeTags_6 : decode cX2_takeTags 6 = .ok (.if_icmp .ge 121, 3) := by decide +kernel
theorem dX2_takeTags_9 : decode cX2_takeTags 9 = .ok (.aload_n 0, 1) := by decide +kernel
theorem dX2_takeTags_10 : decode cX2_takeTags 10 = .ok (.bipush 17, 2) := by decide +kernel
theorem dX2_takeTags_12 : decode cX2_takeTags 12 = .ok (.invokevirtual 47, 3) := by decide +kernel
theorem dX2_takeTags_15 : decode cX2_takeTags 15 = .ok (.ifCond .ne 112, 3) := by decide +kernel
theorem dX2_takeTags_18 : decode cX2_takeTags 18 = .ok (.aload_n 0, 1) := by decide +kernel
theorem dX2_takeTags_19 : decode cX2_takeTags 19 = .ok (.dup, 1) := by decide +kernel
theorem dX2_takeTags_20 : decode cX2_takeTags 20 = .ok (.getfield 33, 3) := by decide +kernel
theorem dX2_takeTags_23 : decode cX2_takeTags 23 = .ok (.iconst 1, 1) := by decide +kernel
theorem dX2_takeTags_24 : decode cX2_takeTags 24 = .ok (.iadd, 1) := by decide +kernel
theorem dX2_takeTags_25 : decode cX2_takeTags 25 = .ok (.putfield 33, 3) := by decide +kernel
theorem dX2_takeTags_28 : decode cX2_takeTags 28 = .ok (.aload_n 0, 1) := by decide +kernel
theorem dX2_takeTags_29 : decode cX2_takeTags 29 = .ok (.getfield 21, 3) := by decide +kernel
theorem dX2_takeTags_32 : decode cX2_takeTags 32 = .ok (.aload_n 0, 1) := by decide +kernel
theorem dX2_takeTags_33 : decode cX2_takeTags 33 = .ok (.getfield 33, 3) := by decide +kernel
theorem dX2_takeTags_36 : decode cX2_takeTags 36 = .ok (.invokevirtual 92, 3) := by decide +kernel
theorem dX2_takeTags_39 : decode cX2_takeTags 39 = .ok (.lstore_n 2, 1) := by decide +kernel
theorem dX2_takeTags_40 : decode cX2_takeTags 40 = .ok (.aload_n 0, 1) := by decide +kernel
theorem dX2_takeTags_41 : decode cX2_takeTags 41 = .ok (.getfield 25, 3) := by decide +kernel
theorem dX2_takeTags_44 : decode cX2_takeTags 44 = .ok (.getfield 182, 3) := by decide +kernel
theorem dX2_takeTags_47 : decode cX2_takeTags 47 = .ok (.lload_n 2, 1) := by decide +kernel
theorem dX2_takeTags_48 : decode cX2_takeTags 48 = .ok (.invokevirtual 154, 3) := by decide +kernel
theorem dX2_takeTags_51 : decode cX2_takeTags 51 = .ok (.iconst (-1), 1) := by decide +kernel
theorem dX2_takeTags_52 : decode cX2_takeTags 52 = .ok (.if_icmp .ne 37, 3) := by decide +kernel
theorem dX2_takeTags_55 : decode cX2_takeTags 55 = .ok (.aload_n 0, 1) := by decide +kernel
theorem dX2_takeTags_56 : decode cX2_takeTags 56 = .ok (.getfield 25, 3) := by decide +kernel
theorem dX2_takeTags_59 : decode cX2_takeTags 59 = .ok (.getfield 182, 3) := by decide +kernel
theorem dX2_takeTags_62 : decode cX2_takeTags 62 = .ok (.invokevirtual 89, 3) := by decide +kernel
theorem dX2_takeTags_65 : decode cX2_takeTags 65 = .ok (.ifCond .eq 13, 3) := by decide +kernel
theorem dX2_takeTags_68 : decode cX2_takeTags 68 = .ok (.aload_n 0, 1) := by decide +kernel
theorem dX2_takeTags_69 : decode cX2_takeTags 69 = .ok (.iconst 4, 1) := by decide +kernel
theorem dX2_takeTags_70 : decode cX2_takeTags 70 = .ok (.aload_n 0, 1) := by decide +kernel
theorem dX2_takeTags_71 : decode cX2_takeTags 71 = .ok (.getfield 33, 3) := by decide +kernel
theorem dX2_takeTags_74 : decode cX2_takeTags 74 = .ok (.invokevirtual 82, 3) := by decide +kernel
theorem dX2_takeTags_77 : decode cX2_takeTags 77 = .ok (.ireturn, 1) := by decide +kernel
theorem dX2_takeTags_78 : decode cX2_takeTags 78 = .ok (.aload_n 0, 1) := by decide +kernel
theorem dX2_takeTags_79 : decode cX2_takeTags 79 = .ok (.getfield 25, 3) := by decide +kernel
theorem dX2_takeTags_82 : decode cX2_takeTags 82 = .ok (.getfield 182, 3) := by decide +kernel
theorem dX2_takeTags_85 : decode cX2_takeTags 85 = .ok (.lload_n 2, 1) := by decide +kernel
theorem dX2_takeTags_86 : decode cX2_takeTags 86 = .ok (.invokevirtual 120, 3) := by decide +kernel
theorem dX2_takeTags_89 : decode cX2_takeTags 89 = .ok (.aload_n 0, 1) := by decide +kernel
theorem dX2_takeTags_90 : decode cX2_takeTags 90 = .ok (.dup, 1) := by decide +kernel
theorem dX2_takeTags_91 : decode cX2_takeTags 91 = .ok (.getfield 111, 3) := by decide +kernel
theorem dX2_takeTags_94 : decode cX2_takeTags 94 = .ok (.iconst 1, 1) := by decide +kernel
theorem dX2_takeTags_95 : decode cX2_takeTags 95 = .ok (.aload_n 0, 1) := by decide +kernel
theorem dX2_takeTags_96 : decode cX2_takeTags 96 = .ok (.getfield 25, 3) := by decide +kernel
theorem dX2_takeTags_99 : decode cX2_takeTags 99 = .ok (.getfield 182, 3) := by decide +kernel
theorem dX2_takeTags_102 : decode cX2_takeTags 102 = .ok (.lload_n 2, 1) := by decide +kernel
theorem dX2_takeTags_103 : decode cX2_takeTags 103 = .ok (.invokevirtual 154, 3) := by decide +kernel
theorem dX2_takeTags_106 : decode cX2_takeTags 106 = .ok (.ishl, 1) := by decide +kernel
theorem dX2_takeTags_107 : decode cX2_takeTags 107 = .ok (.ior, 1) := by decide +kernel
theorem dX2_takeTags_108 : decode cX2_takeTags 108 = .ok (.putfield 111, 3) := by decide +kernel
theorem dX2_takeTags_111 : decode cX2_takeTags 111 = .ok (.aload_n 0, 1) := by decide +kernel
theorem dX2_takeTags_112 : decode cX2_takeTags 112 = .ok (.dup, 1) := by decide +kernel
theorem dX2_takeTags_113 : decode cX2_takeTags 113 = .ok (.getfield 33, 3) := by decide +kernel
theorem dX2_takeTags_116 : decode cX2_takeTags 116 = .ok (.iconst 1, 1) := by decide +kernel
theorem dX2_takeTags_117 : decode cX2_takeTags 117 = .ok (.iadd, 1) := by decide +kernel
theorem dX2_takeTags_118 : decode cX2_takeTags 118 = .ok (.putfield 33, 3) := by decide +kernel
theorem dX2_takeTags_121 : decode cX2_takeTags 121 = .ok (.iinc 1 1, 3) := by decide +kernel
theorem dX2_takeTags_124 : decode cX2_takeTags 124 = .ok (.goto (-122), 3) := by decide +kernel
theorem dX2_takeTags_127 : decode cX2_takeTags 127 = .ok (.iconst 1, 1) := by decide +kernel
theorem dX2_takeTags_128 : decode cX2_takeTags 128 = .ok (.ireturn, 1) := by decide +kernel
theorem dX2_readMeal_0 : decode cX2_readMeal 0 = .ok (.aload_n 0, 1) := by decide +kernel
theorem dX2_readMeal_1 : decode cX2_readMeal 1 = .ok (.getfield 25, 3) := by decide +kernel
theorem dX2_readMeal_4 : decode cX2_readMeal 4 = .ok (.getfield 79, 3) := by decide +kernel
theorem dX2_readMeal_7 : decode cX2_readMeal 7 = .ok (.invokevirtual 89, 3) := by decide +kernel
theorem dX2_readMeal_10 : decode cX2_readMeal 10 = .ok (.ifCond .eq 13, 3) := by decide +kernel
theorem dX2_readMeal_13 : decode cX2_readMeal 13 = .ok (.aload_n 0, 1) := by decide +kernel
theorem dX2_readMeal_14 : decode cX2_readMeal 14 = .ok (.iconst 4, 1) := by decide +kernel
theorem dX2_readMeal_15 : decode cX2_readMeal 15 = .ok (.aload_n 0, 1) := by decide +kernel
theorem dX2_readMeal_16 : decode cX2_readMeal 16 = .ok (.getfield 33, 3) := by decide +kernel
theorem dX2_readMeal_19 : decode cX2_readMeal 19 = .ok (.invokevirtual 82, 3) := by decide +kernel
theorem dX2_readMeal_22 : decode cX2_readMeal 22 = .ok (.ireturn, 1) := by decide +kernel
theorem dX2_readMeal_23 : decode cX2_readMeal 23 = .ok (.aload_n 0, 1) := by decide +kernel
theorem dX2_readMeal_24 : decode cX2_readMeal 24 = .ok (.dup, 1) := by decide +kernel
theorem dX2_readMeal_25 : decode cX2_readMeal 25 = .ok (.getfield 33, 3) := by decide +kernel
theorem dX2_readMeal_28 : decode cX2_readMeal 28 = .ok (.iconst 1, 1) := by decide +kernel
theorem dX2_readMeal_29 : decode cX2_readMeal 29 = .ok (.iadd, 1) := by decide +kernel
theorem dX2_readMeal_30 : decode cX2_readMeal 30 = .ok (.putfield 33, 3) := by decide +kernel
theorem dX2_readMeal_33 : decode cX2_readMeal 33 = .ok (.aload_n 0, 1) := by decide +kernel
theorem dX2_readMeal_34 : decode cX2_readMeal 34 = .ok (.getfield 21, 3) := by decide +kernel
theorem dX2_readMeal_37 : decode cX2_readMeal 37 = .ok (.aload_n 0, 1) := by decide +kernel
theorem dX2_readMeal_38 : decode cX2_readMeal 38 = .ok (.getfield 33, 3) := by decide +kernel
theorem dX2_readMeal_41 : decode cX2_readMeal 41 = .ok (.invokevirtual 92, 3) := by decide +kernel
theorem dX2_readMeal_44 : decode cX2_readMeal 44 = .ok (.lstore_n 1, 1) := by decide +kernel
theorem dX2_readMeal_45 : decode cX2_readMeal 45 = .ok (.aload_n 0, 1) := by decide +kernel
theorem dX2_readMeal_46 : decode cX2_readMeal 46 = .ok (.invokevirtual 96, 3) := by decide +kernel
theorem dX2_readMeal_49 : decode cX2_readMeal 49 = .ok (.ifCond .ne 5, 3) := by decide +kernel
theorem dX2_readMeal_52 : decode cX2_readMeal 52 = .ok (.iconst 0, 1) := by decide +kernel
theorem dX2_readMeal_53 : decode cX2_readMeal 53 = .ok (.ireturn, 1) := by decide +kernel
theorem dX2_readMeal_54 : decode cX2_readMeal 54 = .ok (.iconst 0, 1) := by decide +kernel
theorem dX2_readMeal_55 : decode cX2_readMeal 55 = .ok (.istore_n 3, 1) := by decide +kernel
theorem dX2_readMeal_56 : decode cX2_readMeal 56 = .ok (.iload_n 3, 1) := by decide +kernel
theorem dX2_readMeal_57 : decode cX2_readMeal 57 = .ok (.sipush 1500, 3) := by decide +kernel
theorem dX2_readMeal_60 : decode cX2_readMeal 60 = .ok (.if_icmp .ge 37, 3) := by decide +kernel
theorem dX2_readMeal_63 : decode cX2_readMeal 63 = .ok (.aload_n 0, 1) := by decide +kernel
theorem dX2_readMeal_64 : decode cX2_readMeal 64 = .ok (.bipush 17, 2) := by decide +kernel
theorem dX2_readMeal_66 : decode cX2_readMeal 66 = .ok (.invokevirtual 47, 3) := by decide +kernel
theorem dX2_readMeal_69 : decode cX2_readMeal 69 = .ok (.ifCond .ne 28, 3) := by decide +kernel
theorem dX2_readMeal_72 : decode cX2_readMeal 72 = .ok (.aload_n 0, 1) := by decide +kernel
theorem dX2_readMeal_73 : decode cX2_readMeal 73 = .ok (.dup, 1) := by decide +kernel
theorem dX2_readMeal_74 : decode cX2_readMeal 74 = .ok (.getfield 33, 3) := by decide +kernel
theorem dX2_readMeal_77 : decode cX2_readMeal 77 = .ok (.iconst 1, 1) := by decide +kernel
theorem dX2_readMeal_78 : decode cX2_readMeal 78 = .ok (.iadd, 1) := by decide +kernel
theorem dX2_readMeal_79 : decode cX2_readMeal 79 = .ok (.putfield 33, 3) := by decide +kernel
theorem dX2_readMeal_82 : decode cX2_readMeal 82 = .ok (.aload_n 0, 1) := by decide +kernel
theorem dX2_readMeal_83 : decode cX2_readMeal 83 = .ok (.invokevirtual 185, 3) := by decide +kernel
theorem dX2_readMeal_86 : decode cX2_readMeal 86 = .ok (.ifCond .ne 5, 3) := by decide +kernel
theorem dX2_readMeal_89 : decode cX2_readMeal 89 = .ok (.iconst 0, 1) := by decide +kernel
theorem dX2_readMeal_90 : decode cX2_readMeal 90 = .ok (.ireturn, 1) := by decide +kernel
theorem dX2_readMeal_91 : decode cX2_readMeal 91 = .ok (.iinc 3 1, 3) := by decide +kernel
theorem dX2_readMeal_94 : decode cX2_readMeal 94 = .ok (.goto (-38), 3) := by decide +kernel
theorem dX2_readMeal_97 : decode cX2_readMeal 97 = .ok (.aload_n 0, 1) := by decide +kernel
theorem dX2_readMeal_98 : decode cX2_readMeal 98 = .ok (.getfield 25, 3) := by decide +kernel
theorem dX2_readMeal_101 : decode cX2_readMeal 101 = .ok (.getfield 79, 3) := by decide +kernel
theorem dX2_readMeal_104 : decode cX2_readMeal 104 = .ok (.lload_n 1, 1) := by decide +kernel
theorem dX2_readMeal_105 : decode cX2_readMeal 105 = .ok (.invokevirtual 120, 3) := by decide +kernel
theorem dX2_readMeal_108 : decode cX2_readMeal 108 = .ok (.aload_n 0, 1) := by decide +kernel
theorem dX2_readMeal_109 : decode cX2_readMeal 109 = .ok (.dup, 1) := by decide +kernel
theorem dX2_readMeal_110 : decode cX2_readMeal 110 = .ok (.getfield 33, 3) := by decide +kernel
theorem dX2_readMeal_113 : decode cX2_readMeal 113 = .ok (.iconst 1, 1) := by decide +kernel
theorem dX2_readMeal_114 : decode cX2_readMeal 114 = .ok (.iadd, 1) := by decide +kernel
theorem dX2_readMeal_115 : decode cX2_readMeal 115 = .ok (.putfield 33, 3) := by decide +kernel
theorem dX2_readMeal_118 : decode cX2_readMeal 118 = .ok (.iconst 1, 1) := by decide +kernel
theorem dX2_readMeal_119 : decode cX2_readMeal 119 = .ok (.ireturn, 1) := by decide +kernel
theorem dX2_takeChoice_0 : decode cX2_takeChoice 0 = .ok (.aload_n 0, 1) := by decide +kernel
theorem dX2_takeChoice_1 : decode cX2_takeChoice 1 = .ok (.getfield 25, 3) := by decide +kernel
theorem dX2_takeChoice_4 : decode cX2_takeChoice 4 = .ok (.getfield 188, 3) := by decide +kernel
theorem dX2_takeChoice_7 : decode cX2_takeChoice 7 = .ok (.istore_n 1, 1) := by decide +kernel
theorem dX2_takeChoice_8 : decode cX2_takeChoice 8 = .ok (.iload_n 1, 1) := by decide +kernel
theorem dX2_takeChoice_9 : decode cX2_takeChoice 9 = .ok (.ifCond .lt 9, 3) := by decide +kernel
theorem dX2_takeChoice_12 : decode cX2_takeChoice 12 = .ok (.iload_n 1, 1) := by decide +kernel
theorem dX2_takeChoice_13 : decode cX2_takeChoice 13 = .ok (.bipush 8, 2) := by decide +kernel
theorem dX2_takeChoice_15 : decode cX2_takeChoice 15 = .ok (.if_icmp .lt 13, 3) := by decide +kernel
theorem dX2_takeChoice_18 : decode cX2_takeChoice 18 = .ok (.aload_n 0, 1) := by decide +kernel
theorem dX2_takeChoice_19 : decode cX2_takeChoice 19 = .ok (.iconst 4, 1) := by decide +kernel
theorem dX2_takeChoice_20 : decode cX2_takeChoice 20 = .ok (.aload_n 0, 1) := by decide +kernel
theorem dX2_takeChoice_21 : decode cX2_takeChoice 21 = .ok (.getfield 33, 3) := by decide +kernel
theorem dX2_takeChoice_24 : decode cX2_takeChoice 24 = .ok (.invokevirtual 82, 3) := by decide +kernel
theorem dX2_takeChoice_27 : decode cX2_takeChoice 27 = .ok (.ireturn, 1) := by decide +kernel
theorem dX2_takeChoice_28 : decode cX2_takeChoice 28 = .ok (.aload_n 0, 1) := by decide +kernel
theorem dX2_takeChoice_29 : decode cX2_takeChoice 29 = .ok (.getfield 9, 3) := by decide +kernel
theorem dX2_takeChoice_32 : decode cX2_takeChoice 32 = .ok (.iload_n 1, 1) := by decide +kernel
theorem dX2_takeChoice_33 : decode cX2_takeChoice 33 = .ok (.aload_n 0, 1) := by decide +kernel
theorem dX2_takeChoice_34 : decode cX2_takeChoice 34 = .ok (.getfield 33, 3) := by decide +kernel
theorem dX2_takeChoice_37 : decode cX2_takeChoice 37 = .ok (.iastore, 1) := by decide +kernel
theorem dX2_takeChoice_38 : decode cX2_takeChoice 38 = .ok (.aload_n 0, 1) := by decide +kernel
theorem dX2_takeChoice_39 : decode cX2_takeChoice 39 = .ok (.getfield 15, 3) := by decide +kernel
theorem dX2_takeChoice_42 : decode cX2_takeChoice 42 = .ok (.iload_n 1, 1) := by decide +kernel
theorem dX2_takeChoice_43 : decode cX2_takeChoice 43 = .ok (.aload_n 0, 1) := by decide +kernel
theorem dX2_takeChoice_44 : decode cX2_takeChoice 44 = .ok (.getfield 25, 3) := by decide +kernel
theorem dX2_takeChoice_47 : decode cX2_takeChoice 47 = .ok (.getfield 68, 3) := by decide +kernel
theorem dX2_takeChoice_50 : decode cX2_takeChoice 50 = .ok (.getfield 74, 3) := by decide +kernel
theorem dX2_takeChoice_53 : decode cX2_takeChoice 53 = .ok (.iastore, 1) := by decide +kernel
theorem dX2_takeChoice_54 : decode cX2_takeChoice 54 = .ok (.aload_n 0, 1) := by decide +kernel
theorem dX2_takeChoice_55 : decode cX2_takeChoice 55 = .ok (.getfield 25, 3) := by decide +kernel
theorem dX2_takeChoice_58 : decode cX2_takeChoice 58 = .ok (.getfield 191, 3) := by decide +kernel
theorem dX2_takeChoice_61 : decode cX2_takeChoice 61 = .ok (.iload_n 1, 1) := by decide +kernel
theorem dX2_takeChoice_62 : decode cX2_takeChoice 62 = .ok (.aload_n 0, 1) := by decide +kernel
theorem dX2_takeChoice_63 : decode cX2_takeChoice 63 = .ok (.getfield 25, 3) := by decide +kernel
theorem dX2_takeChoice_66 : decode cX2_takeChoice 66 = .ok (.getfield 79, 3) := by decide +kernel
theorem dX2_takeChoice_69 : decode cX2_takeChoice 69 = .ok (.getfield 74, 3) := by decide +kernel
theorem dX2_takeChoice_72 : decode cX2_takeChoice 72 = .ok (.iastore, 1) := by decide +kernel
theorem dX2_takeChoice_73 : decode cX2_takeChoice 73 = .ok (.aload_n 0, 1) := by decide +kernel
theorem dX2_takeChoice_74 : decode cX2_takeChoice 74 = .ok (.aload_n 0, 1) := by decide +kernel
theorem dX2_takeChoice_75 : decode cX2_takeChoice 75 = .ok (.getfield 29, 3) := by decide +kernel
theorem dX2_takeChoice_78 : decode cX2_takeChoice 78 = .ok (.aload_n 0, 1) := by decide +kernel
theorem dX2_takeChoice_79 : decode cX2_takeChoice 79 = .ok (.getfield 33, 3) := by decide +kernel
theorem dX2_takeChoice_82 : decode cX2_takeChoice 82 = .ok (.invokevirtual 194, 3) := by decide +kernel
theorem dX2_takeChoice_85 : decode cX2_takeChoice 85 = .ok (.putfield 33, 3) := by decide +kernel
theorem dX2_takeChoice_88 : decode cX2_takeChoice 88 = .ok (.aload_n 0, 1) := by decide +kernel
theorem dX2_takeChoice_89 : decode cX2_takeChoice 89 = .ok (.bipush 22, 2) := by decide +kernel
theorem dX2_takeChoice_91 : decode cX2_takeChoice 91 = .ok (.invokevirtual 47, 3) := by decide +kernel
theorem dX2_takeChoice_94 : decode cX2_takeChoice 94 = .ok (.ifCond .eq 13, 3) := by decide +kernel
theorem dX2_takeChoice_97 : decode cX2_takeChoice 97 = .ok (.aload_n 0, 1) := by decide +kernel
theorem dX2_takeChoice_98 : decode cX2_takeChoice 98 = .ok (.iconst 2, 1) := by decide +kernel
theorem dX2_takeChoice_99 : decode cX2_takeChoice 99 = .ok (.aload_n 0, 1) := by decide +kernel
theorem dX2_takeChoice_100 : decode cX2_takeChoice 100 = .ok (.getfield 33, 3) := by decide +kernel
theorem dX2_takeChoice_103 : decode cX2_takeChoice 103 = .ok (.invokevirtual 82, 3) := by decide +kernel
theorem dX2_takeChoice_106 : decode cX2_takeChoice 106 = .ok (.ireturn, 1) := by decide +kernel
theorem dX2_takeChoice_107 : decode cX2_takeChoice 107 = .ok (.aload_n 0, 1) := by decide +kernel
theorem dX2_takeChoice_108 : decode cX2_takeChoice 108 = .ok (.getfield 25, 3) := by decide +kernel
theorem dX2_takeChoice_111 : decode cX2_takeChoice 111 = .ok (.dup, 1) := by decide +kernel
theorem dX2_takeChoice_112 : decode cX2_takeChoice 112 = .ok (.getfield 188, 3) := by decide +kernel
theorem dX2_takeChoice_115 : decode cX2_takeChoice 115 = .ok (.iconst 1, 1) := by decide +kernel
theorem dX2_takeChoice_116 : decode cX2_takeChoice 116 = .ok (.iadd, 1) := by decide +kernel
theorem dX2_takeChoice_117 : decode cX2_takeChoice 117 = .ok (.putfield 188, 3) := by decide +kernel
theorem dX2_takeChoice_120 : decode cX2_takeChoice 120 = .ok (.iconst 1, 1) := by decide +kernel
theorem dX2_takeChoice_121 : decode cX2_takeChoice 121 = .ok (.ireturn, 1) := by decide +kernel
theorem dX2_readRule_0 : decode cX2_readRule 0 = .ok (.aload_n 0, 1) := by decide +kernel
theorem dX2_readRule_1 : decode cX2_readRule 1 = .ok (.getfield 25, 3) := by decide +kernel
theorem dX2_readRule_4 : decode cX2_readRule 4 = .ok (.getfield 199, 3) := by decide +kernel
theorem dX2_readRule_7 : decode cX2_readRule 7 = .ok (.getfield 203, 3) := by decide +kernel
theorem dX2_readRule_10 : decode cX2_readRule 10 = .ok (.istore_n 1, 1) := by decide +kernel
theorem dX2_readRule_11 : decode cX2_readRule 11 = .ok (.iload_n 1, 1) := by decide +kernel
theorem dX2_readRule_12 : decode cX2_readRule 12 = .ok (.ifCond .lt 9, 3) := by decide +kernel
theorem dX2_readRule_15 : decode cX2_readRule 15 = .ok (.iload_n 1, 1) := by decide +kernel
theorem dX2_readRule_16 : decode cX2_readRule 16 = .ok (.bipush 8, 2) := by decide +kernel
theorem dX2_readRule_18 : decode cX2_readRule 18 = .ok (.if_icmp .lt 13, 3) := by decide +kernel
theorem dX2_readRule_21 : decode cX2_readRule 21 = .ok (.aload_n 0, 1) := by decide +kernel
theorem dX2_readRule_22 : decode cX2_readRule 22 = .ok (.iconst 4, 1) := by decide +kernel
theorem dX2_readRule_23 : decode cX2_readRule 23 = .ok (.aload_n 0, 1) := by decide +kernel
theorem dX2_readRule_24 : decode cX2_readRule 24 = .ok (.getfield 33, 3) := by decide +kernel
theorem dX2_readRule_27 : decode cX2_readRule 27 = .ok (.invokevirtual 82, 3) := by decide +kernel
theorem dX2_readRule_30 : decode cX2_readRule 30 = .ok (.ireturn, 1) := by decide +kernel
theorem dX2_readRule_31 : decode cX2_readRule 31 = .ok (.aload_n 0, 1) := by decide +kernel
theorem dX2_readRule_32 : decode cX2_readRule 32 = .ok (.getfield 25, 3) := by decide +kernel
theorem dX2_readRule_35 : decode cX2_readRule 35 = .ok (.getfield 199, 3) := by decide +kernel
theorem dX2_readRule_38 : decode cX2_readRule 38 = .ok (.getfield 206, 3) := by decide +kernel
theorem dX2_readRule_41 : decode cX2_readRule 41 = .ok (.iload_n 1, 1) := by decide +kernel
theorem dX2_readRule_42 : decode cX2_readRule 42 = .ok (.iconst 0, 1) := by decide +kernel
theorem dX2_readRule_43 : decode cX2_readRule 43 = .ok (.iastore, 1) := by decide +kernel
theorem dX2_readRule_44 : decode cX2_readRule 44 = .ok (.aload_n 0, 1) := by decide +kernel
theorem dX2_readRule_45 : decode cX2_readRule 45 = .ok (.getfield 25, 3) := by decide +kernel
theorem dX2_readRule_48 : decode cX2_readRule 48 = .ok (.getfield 199, 3) := by decide +kernel
theorem dX2_readRule_51 : decode cX2_readRule 51 = .ok (.getfield 209, 3) := by decide +kernel
theorem dX2_readRule_54 : decode cX2_readRule 54 = .ok (.iload_n 1, 1) := by decide +kernel
theorem dX2_readRule_55 : decode cX2_readRule 55 = .ok (.iconst 0, 1) := by decide +kernel
theorem dX2_readRule_56 : decode cX2_readRule 56 = .ok (.iastore, 1) := by decide +kernel
theorem dX2_readRule_57 : decode cX2_readRule 57 = .ok (.aload_n 0, 1) := by decide +kernel
theorem dX2_readRule_58 : decode cX2_readRule 58 = .ok (.getfield 18, 3) := by decide +kernel
theorem dX2_readRule_61 : decode cX2_readRule 61 = .ok (.iload_n 1, 1) := by decide +kernel
theorem dX2_readRule_62 : decode cX2_readRule 62 = .ok (.iconst (-1), 1) := by decide +kernel
theorem dX2_readRule_63 : decode cX2_readRule 63 = .ok (.iastore, 1) := by decide +kernel
theorem dX2_readRule_64 : decode cX2_readRule 64 = .ok (.aload_n 0, 1) := by decide +kernel
theorem dX2_readRule_65 : decode cX2_readRule 65 = .ok (.dup, 1) := by decide +kernel
theorem dX2_readRule_66 : decode cX2_readRule 66 = .ok (.getfield 33, 3) := by decide +kernel
theorem dX2_readRule_69 : decode cX2_readRule 69 = .ok (.iconst 1, 1) := by decide +kernel
theorem dX2_readRule_70 : decode cX2_readRule 70 = .ok (.iadd, 1) := by decide +kernel
theorem dX2_readRule_71 : decode cX2_readRule 71 = .ok (.putfield 33, 3) := by decide +kernel
theorem dX2_readRule_74 : decode cX2_readRule 74 = .ok (.aload_n 0, 1) := by decide +kernel
theorem dX2_readRule_75 : decode cX2_readRule 75 = .ok (.getfield 21, 3) := by decide +kernel
theorem dX2_readRule_78 : decode cX2_readRule 78 = .ok (.aload_n 0, 1) := by decide +kernel
theorem dX2_readRule_79 : decode cX2_readRule 79 = .ok (.getfield 33, 3) := by decide +kernel
theorem dX2_readRule_82 : decode cX2_readRule 82 = .ok (.invokevirtual 51, 3) := by decide +kernel
theorem dX2_readRule_85 : decode cX2_readRule 85 = .ok (.istore_n 2, 1) := by decide +kernel
theorem dX2_readRule_86 : decode cX2_readRule 86 = .ok (.aload_n 0, 1) := by decide +kernel
theorem dX2_readRule_87 : decode cX2_readRule 87 = .ok (.dup, 1) := by decide +kernel
theorem dX2_readRule_88 : decode cX2_readRule 88 = .ok (.getfield 33, 3) := by decide +kernel
theorem dX2_readRule_91 : decode cX2_readRule 91 = .ok (.iconst 1, 1) := by decide +kernel
theorem dX2_readRule_92 : decode cX2_readRule 92 = .ok (.iadd, 1) := by decide +kernel
theorem dX2_readRule_93 : decode cX2_readRule 93 = .ok (.putfield 33, 3) := by decide +kernel
theorem dX2_readRule_96 : decode cX2_readRule 96 = .ok (.iload_n 2, 1) := by decide +kernel
theorem dX2_readRule_97 : decode cX2_readRule 97 = .ok (.tableswitch 58 7 9 #[27, 36, 47], 27) := by decide +kernel
theorem dX2_readRule_124 : decode cX2_readRule 124 = .ok (.aload_n 0, 1) := by decide +kernel
theorem dX2_readRule_125 : decode cX2_readRule 125 = .ok (.iload_n 1, 1) := by decide +kernel
theorem dX2_readRule_126 : decode cX2_readRule 126 = .ok (.invokevirtual 212, 3) := by decide +kernel
theorem dX2_readRule_129 : decode cX2_readRule 129 = .ok (.istore_n 3, 1) := by decide +kernel
theorem dX2_readRule_130 : decode cX2_readRule 130 = .ok (.goto 31, 3) := by decide +kernel
theorem dX2_readRule_133 : decode cX2_readRule 133 = .ok (.aload_n 0, 1) := by decide +kernel
theorem dX2_readRule_134 : decode cX2_readRule 134 = .ok (.iload_n 1, 1) := by decide +kernel
theorem dX2_readRule_135 : decode cX2_readRule 135 = .ok (.iconst 1, 1) := by decide +kernel
theorem dX2_readRule_136 : decode cX2_readRule 136 = .ok (.iconst 0, 1) := by decide +kernel
theorem dX2_readRule_137 : decode cX2_readRule 137 = .ok (.invokevirtual 215, 3) := by decide +kernel
theorem dX2_readRule_140 : decode cX2_readRule 140 = .ok (.istore_n 3, 1) := by decide +kernel
theorem dX2_readRule_141 : decode cX2_readRule 141 = .ok (.goto 20, 3) := by decide +kernel
theorem dX2_readRule_144 : decode cX2_readRule 144 = .ok (.aload_n 0, 1) := by decide +kernel
theorem dX2_readRule_145 : decode cX2_readRule 145 = .ok (.iload_n 1, 1) := by decide +kernel
theorem dX2_readRule_146 : decode cX2_readRule 146 = .ok (.iconst 2, 1) := by decide +kernel
theorem dX2_readRule_147 : decode cX2_readRule 147 = .ok (.iconst 1, 1) := by decide +kernel
theorem dX2_readRule_148 : decode cX2_readRule 148 = .ok (.invokevirtual 215, 3) := by decide +kernel
theorem dX2_readRule_151 : decode cX2_readRule 151 = .ok (.istore_n 3, 1) := by decide +kernel
theorem dX2_readRule_152 : decode cX2_readRule 152 = .ok (.goto 9, 3) := by decide +kernel
theorem dX2_readRule_155 : decode cX2_readRule 155 = .ok (.aload_n 0, 1) := by decide +kernel
theorem dX2_readRule_156 : decode cX2_readRule 156 = .ok (.iload_n 1, 1) := by decide +kernel
theorem dX2_readRule_157 : decode cX2_readRule 157 = .ok (.invokevirtual 219, 3) := by decide +kernel
theorem dX2_readRule_160 : decode cX2_readRule 160 = .ok (.istore_n 3, 1) := by decide +kernel
theorem dX2_readRule_161 : decode cX2_readRule 161 = .ok (.iload_n 3, 1) := by decide +kernel
theorem dX2_readRule_162 : decode cX2_readRule 162 = .ok (.ifCond .ne 5, 3) := by decide +kernel
theorem dX2_readRule_165 : decode cX2_readRule 165 = .ok (.iconst 0, 1) := by decide +kernel
theorem dX2_readRule_166 : decode cX2_readRule 166 = .ok (.ireturn, 1) := by decide +kernel
theorem dX2_readRule_167 : decode cX2_readRule 167 = .ok (.aload_n 0, 1) := by decide +kernel
theorem dX2_readRule_168 : decode cX2_readRule 168 = .ok (.getfield 25, 3) := by decide +kernel
theorem dX2_readRule_171 : decode cX2_readRule 171 = .ok (.getfield 199, 3) := by decide +kernel
theorem dX2_readRule_174 : decode cX2_readRule 174 = .ok (.dup, 1) := by decide +kernel
theorem dX2_readRule_175 : decode cX2_readRule 175 = .ok (.getfield 203, 3) := by decide +kernel
theorem dX2_readRule_178 : decode cX2_readRule 178 = .ok (.iconst 1, 1) := by decide +kernel
theorem dX2_readRule_179 : decode cX2_readRule 179 = .ok (.iadd, 1) := by decide +kernel
theorem dX2_readRule_180 : decode cX2_readRule 180 = .ok (.putfield 203, 3) := by decide +kernel
theorem dX2_readRule_183 : decode cX2_readRule 183 = .ok (.aload_n 0, 1) := by decide +kernel
theorem dX2_readRule_184 : decode cX2_readRule 184 = .ok (.dup, 1) := by decide +kernel
theorem dX2_readRule_185 : decode cX2_readRule 185 = .ok (.getfield 33, 3) := by decide +kernel
theorem dX2_readRule_188 : decode cX2_readRule 188 = .ok (.iconst 1, 1) := by decide +kernel
theorem dX2_readRule_189 : decode cX2_readRule 189 = .ok (.iadd, 1) := by decide +kernel
theorem dX2_readRule_190 : decode cX2_readRule 190 = .ok (.putfield 33, 3) := by decide +kernel
theorem dX2_readRule_193 : decode cX2_readRule 193 = .ok (.iconst 1, 1) := by decide +kernel
theorem dX2_readRule_194 : decode cX2_readRule 194 = .ok (.ireturn, 1) := by decide +kernel
theorem dX2_takeApart_0 : decode cX2_takeApart 0 = .ok (.aload_n 0, 1) := by decide +kernel
theorem dX2_takeApart_1 : decode cX2_takeApart 1 = .ok (.iconst 1, 1) := by decide +kernel
theorem dX2_takeApart_2 : decode cX2_takeApart 2 = .ok (.bipush 9, 2) := by decide +kernel
theorem dX2_takeApart_4 : decode cX2_takeApart 4 = .ok (.invokevirtual 99, 3) := by decide +kernel
theorem dX2_takeApart_7 : decode cX2_takeApart 7 = .ok (.ifCond .ne 5, 3) := by decide +kernel
theorem dX2_takeApart_10 : decode cX2_takeApart 10 = .ok (.iconst 0, 1) := by decide +kernel
theorem dX2_takeApart_11 : decode cX2_takeApart 11 = .ok (.ireturn, 1) := by decide +kernel
theorem dX2_takeApart_12 : decode cX2_takeApart 12 = .ok (.aload_n 0, 1) := by decide +kernel
theorem dX2_takeApart_13 : decode cX2_takeApart 13 = .ok (.getfield 25, 3) := by decide +kernel
theorem dX2_takeApart_16 : decode cX2_takeApart 16 = .ok (.getfield 199, 3) := by decide +kernel
theorem dX2_takeApart_19 : decode cX2_takeApart 19 = .ok (.getfield 222, 3) := by decide +kernel
theorem dX2_takeApart_22 : decode cX2_takeApart 22 = .ok (.iload_n 1, 1) := by decide +kernel
theorem dX2_takeApart_23 : decode cX2_takeApart 23 = .ok (.iconst 0, 1) := by decide +kernel
theorem dX2_takeApart_24 : decode cX2_takeApart 24 = .ok (.iastore, 1) := by decide +kernel
theorem dX2_takeApart_25 : decode cX2_takeApart 25 = .ok (.aload_n 0, 1) := by decide +kernel
theorem dX2_takeApart_26 : decode cX2_takeApart 26 = .ok (.getfield 25, 3) := by decide +kernel
theorem dX2_takeApart_29 : decode cX2_takeApart 29 = .ok (.getfield 199, 3) := by decide +kernel
theorem dX2_takeApart_32 : decode cX2_takeApart 32 = .ok (.getfield 225, 3) := by decide +kernel
theorem dX2_takeApart_35 : decode cX2_takeApart 35 = .ok (.iload_n 1, 1) := by decide +kernel
theorem dX2_takeApart_36 : decode cX2_takeApart 36 = .ok (.aload_n 0, 1) := by decide +kernel
theorem dX2_takeApart_37 : decode cX2_takeApart 37 = .ok (.getfield 105, 3) := by decide +kernel
theorem dX2_takeApart_40 : decode cX2_takeApart 40 = .ok (.iastore, 1) := by decide +kernel
theorem dX2_takeApart_41 : decode cX2_takeApart 41 = .ok (.aload_n 0, 1) := by decide +kernel
theorem dX2_takeApart_42 : decode cX2_takeApart 42 = .ok (.iload_n 1, 1) := by decide +kernel
theorem dX2_takeApart_43 : decode cX2_takeApart 43 = .ok (.invokevirtual 228, 3) := by decide +kernel
theorem dX2_takeApart_46 : decode cX2_takeApart 46 = .ok (.ireturn, 1) := by decide +kernel
theorem dX2_takeSpan_0 : decode cX2_takeSpan 0 = .ok (.aload_n 0, 1) := by decide +kernel
theorem dX2_takeSpan_1 : decode cX2_takeSpan 1 = .ok (.iload_n 3, 1) := by decide +kernel
theorem dX2_takeSpan_2 : decode cX2_takeSpan 2 = .ok (.bipush 9, 2) := by decide +kernel
theorem dX2_takeSpan_4 : decode cX2_takeSpan 4 = .ok (.invokevirtual 99, 3) := by decide +kernel
theorem dX2_takeSpan_7 : decode cX2_takeSpan 7 = .ok (.ifCond .ne 5, 3) := by decide +kernel
theorem dX2_takeSpan_10 : decode cX2_takeSpan 10 = .ok (.iconst 0, 1) := by decide +kernel
theorem dX2_takeSpan_11 : decode cX2_takeSpan 11 = .ok (.ireturn, 1) := by decide +kernel
theorem dX2_takeSpan_12 : decode cX2_takeSpan 12 = .ok (.aload_n 0, 1) := by decide +kernel
theorem dX2_takeSpan_13 : decode cX2_takeSpan 13 = .ok (.getfield 25, 3) := by decide +kernel
theorem dX2_takeSpan_16 : decode cX2_takeSpan 16 = .ok (.getfield 199, 3) := by decide +kernel
theorem dX2_takeSpan_19 : decode cX2_takeSpan 19 = .ok (.getfield 222, 3) := by decide +kernel
theorem dX2_takeSpan_22 : decode cX2_takeSpan 22 = .ok (.iload_n 1, 1) := by decide +kernel
theorem dX2_takeSpan_23 : decode cX2_takeSpan 23 = .ok (.iload_n 2, 1) := by decide +kernel
theorem dX2_takeSpan_24 : decode cX2_takeSpan 24 = .ok (.iastore, 1) := by decide +kernel
theorem dX2_takeSpan_25 : decode cX2_takeSpan 25 = .ok (.aload_n 0, 1) := by decide +kernel
theorem dX2_takeSpan_26 : decode cX2_takeSpan 26 = .ok (.getfield 25, 3) := by decide +kernel
theorem dX2_takeSpan_29 : decode cX2_takeSpan 29 = .ok (.getfield 199, 3) := by decide +kernel
theorem dX2_takeSpan_32 : decode cX2_takeSpan 32 = .ok (.getfield 225, 3) := by decide +kernel
theorem dX2_takeSpan_35 : decode cX2_takeSpan 35 = .ok (.iload_n 1, 1) := by decide +kernel
theorem dX2_takeSpan_36 : decode cX2_takeSpan 36 = .ok (.aload_n 0, 1) := by decide +kernel
theorem dX2_takeSpan_37 : decode cX2_takeSpan 37 = .ok (.getfield 105, 3) := by decide +kernel
theorem dX2_takeSpan_40 : decode cX2_takeSpan 40 = .ok (.iastore, 1) := by decide +kernel
theorem dX2_takeSpan_41 : decode cX2_takeSpan 41 = .ok (.aload_n 0, 1) := by decide +kernel
theorem dX2_takeSpan_42 : decode cX2_takeSpan 42 = .ok (.iload_n 1, 1) := by decide +kernel
theorem dX2_takeSpan_43 : decode cX2_takeSpan 43 = .ok (.invokevirtual 228, 3) := by decide +kernel
theorem dX2_takeSpan_46 : decode cX2_takeSpan 46 = .ok (.ifCond .ne 5, 3) := by decide +kernel
theorem dX2_takeSpan_49 : decode cX2_takeSpan 49 = .ok (.iconst 0, 1) := by decide +kernel
theorem dX2_takeSpan_50 : decode cX2_takeSpan 50 = .ok (.ireturn, 1) := by decide +kernel
theorem dX2_takeSpan_51 : decode cX2_takeSpan 51 = .ok (.aload_n 0, 1) := by decide +kernel
theorem dX2_takeSpan_52 : decode cX2_takeSpan 52 = .ok (.dup, 1) := by decide +kernel
theorem dX2_takeSpan_53 : decode cX2_takeSpan 53 = .ok (.getfield 33, 3) := by decide +kernel
theorem dX2_takeSpan_56 : decode cX2_takeSpan 56 = .ok (.iconst 1, 1) := by decide +kernel
theorem dX2_takeSpan_57 : decode cX2_takeSpan 57 = .ok (.iadd, 1) := by decide +kernel
theorem dX2_takeSpan_58 : decode cX2_takeSpan 58 = .ok (.putfield 33, 3) := by decide +kernel
theorem dX2_takeSpan_61 : decode cX2_takeSpan 61 = .ok (.aload_n 0, 1) := by decide +kernel
theorem dX2_takeSpan_62 : decode cX2_takeSpan 62 = .ok (.iconst 1, 1) := by decide +kernel
theorem dX2_takeSpan_63 : decode cX2_takeSpan 63 = .ok (.bipush 14, 2) := by decide +kernel
theorem dX2_takeSpan_65 : decode cX2_takeSpan 65 = .ok (.invokevirtual 99, 3) := by decide +kernel
theorem dX2_takeSpan_68 : decode cX2_takeSpan 68 = .ok (.ifCond .ne 5, 3) := by decide +kernel
theorem dX2_takeSpan_71 : decode cX2_takeSpan 71 = .ok (.iconst 0, 1) := by decide +kernel
theorem dX2_takeSpan_72 : decode cX2_takeSpan 72 = .ok (.ireturn, 1) := by decide +kernel
theorem dX2_takeSpan_73 : decode cX2_takeSpan 73 = .ok (.aload_n 0, 1) := by decide +kernel
theorem dX2_takeSpan_74 : decode cX2_takeSpan 74 = .ok (.getfield 25, 3) := by decide +kernel
theorem dX2_takeSpan_77 : decode cX2_takeSpan 77 = .ok (.getfield 199, 3) := by decide +kernel
theorem dX2_takeSpan_80 : decode cX2_takeSpan 80 = .ok (.getfield 206, 3) := by decide +kernel
theorem dX2_takeSpan_83 : decode cX2_takeSpan 83 = .ok (.iload_n 1, 1) := by decide +kernel
theorem dX2_takeSpan_84 : decode cX2_takeSpan 84 = .ok (.aload_n 0, 1) := by decide +kernel
theorem dX2_takeSpan_85 : decode cX2_takeSpan 85 = .ok (.getfield 105, 3) := by decide +kernel
theorem dX2_takeSpan_88 : decode cX2_takeSpan 88 = .ok (.iastore, 1) := by decide +kernel
theorem dX2_takeSpan_89 : decode cX2_takeSpan 89 = .ok (.iconst 1, 1) := by decide +kernel
theorem dX2_takeSpan_90 : decode cX2_takeSpan 90 = .ok (.ireturn, 1) := by decide +kernel
theorem dX2_takeEnergy_0 : decode cX2_takeEnergy 0 = .ok (.aload_n 0, 1) := by decide +kernel
theorem dX2_takeEnergy_1 : decode cX2_takeEnergy 1 = .ok (.iconst 0, 1) := by decide +kernel
theorem dX2_takeEnergy_2 : decode cX2_takeEnergy 2 = .ok (.sipush 9999, 3) := by decide +kernel
theorem dX2_takeEnergy_5 : decode cX2_takeEnergy 5 = .ok (.invokevirtual 99, 3) := by decide +kernel
theorem dX2_takeEnergy_8 : decode cX2_takeEnergy 8 = .ok (.ifCond .ne 5, 3) := by decide +kernel
theorem dX2_takeEnergy_11 : decode cX2_takeEnergy 11 = .ok (.iconst 0, 1) := by decide +kernel
theorem dX2_takeEnergy_12 : decode cX2_takeEnergy 12 = .ok (.ireturn, 1) := by decide +kernel
theorem dX2_takeEnergy_13 : decode cX2_takeEnergy 13 = .ok (.aload_n 0, 1) := by decide +kernel
theorem dX2_takeEnergy_14 : decode cX2_takeEnergy 14 = .ok (.getfield 105, 3) := by decide +kernel
theorem dX2_takeEnergy_17 : decode cX2_takeEnergy 17 = .ok (.istore_n 2, 1) := by decide +kernel
theorem dX2_takeEnergy_18 : decode cX2_takeEnergy 18 = .ok (.aload_n 0, 1) := by decide +kernel
theorem dX2_takeEnergy_19 : decode cX2_takeEnergy 19 = .ok (.dup, 1) := by decide +kernel
theorem dX2_takeEnergy_20 : decode cX2_takeEnergy 20 = .ok (.getfield 33, 3) := by decide +kernel
theorem dX2_takeEnergy_23 : decode cX2_takeEnergy 23 = .ok (.iconst 1, 1) := by decide +kernel
theorem dX2_takeEnergy_24 : decode cX2_takeEnergy 24 = .ok (.iadd, 1) := by decide +kernel
theorem dX2_takeEnergy_25 : decode cX2_takeEnergy 25 = .ok (.putfield 33, 3) := by decide +kernel
theorem dX2_takeEnergy_28 : decode cX2_takeEnergy 28 = .ok (.aload_n 0, 1) := by decide +kernel
theorem dX2_takeEnergy_29 : decode cX2_takeEnergy 29 = .ok (.iload_n 2, 1) := by decide +kernel
theorem dX2_takeEnergy_30 : decode cX2_takeEnergy 30 = .ok (.sipush 9999, 3) := by decide +kernel
theorem dX2_takeEnergy_33 : decode cX2_takeEnergy 33 = .ok (.invokevirtual 99, 3) := by decide +kernel
theorem dX2_takeEnergy_36 : decode cX2_takeEnergy 36 = .ok (.ifCond .ne 5, 3) := by decide +kernel
theorem dX2_takeEnergy_39 : decode cX2_takeEnergy 39 = .ok (.iconst 0, 1) := by decide +kernel
theorem dX2_takeEnergy_40 : decode cX2_takeEnergy 40 = .ok (.ireturn, 1) := by decide +kernel
theorem dX2_takeEnergy_41 : decode cX2_takeEnergy 41 = .ok (.aload_n 0, 1) := by decide +kernel
theorem dX2_takeEnergy_42 : decode cX2_takeEnergy 42 = .ok (.getfield 25, 3) := by decide +kernel
theorem dX2_takeEnergy_45 : decode cX2_takeEnergy 45 = .ok (.getfield 199, 3) := by decide +kernel
theorem dX2_takeEnergy_48 : decode cX2_takeEnergy 48 = .ok (.getfield 222, 3) := by decide +kernel
theorem dX2_takeEnergy_51 : decode cX2_takeEnergy 51 = .ok (.iload_n 1, 1) := by decide +kernel
theorem dX2_takeEnergy_52 : decode cX2_takeEnergy 52 = .ok (.iconst 3, 1) := by decide +kernel
theorem dX2_takeEnergy_53 : decode cX2_takeEnergy 53 = .ok (.iastore, 1) := by decide +kernel
theorem dX2_takeEnergy_54 : decode cX2_takeEnergy 54 = .ok (.aload_n 0, 1) := by decide +kernel
theorem dX2_takeEnergy_55 : decode cX2_takeEnergy 55 = .ok (.getfield 25, 3) := by decide +kernel
theorem dX2_takeEnergy_58 : decode cX2_takeEnergy 58 = .ok (.getfield 199, 3) := by decide +kernel
theorem dX2_takeEnergy_61 : decode cX2_takeEnergy 61 = .ok (.getfield 225, 3) := by decide +kernel
theorem dX2_takeEnergy_64 : decode cX2_takeEnergy 64 = .ok (.iload_n 1, 1) := by decide +kernel
theorem dX2_takeEnergy_65 : decode cX2_takeEnergy 65 = .ok (.iload_n 2, 1) := by decide +kernel
theorem dX2_takeEnergy_66 : decode cX2_takeEnergy 66 = .ok (.iastore, 1) := by decide +kernel
theorem dX2_takeEnergy_67 : decode cX2_takeEnergy 67 = .ok (.aload_n 0, 1) := by decide +kernel
theorem dX2_takeEnergy_68 : decode cX2_takeEnergy 68 = .ok (.getfield 25, 3) := by decide +kernel
theorem dX2_takeEnergy_71 : decode cX2_takeEnergy 71 = .ok (.getfield 199, 3) := by decide +kernel
theorem dX2_takeEnergy_74 : decode cX2_takeEnergy 74 = .ok (.getfield 206, 3) := by decide +kernel
theorem dX2_takeEnergy_77 : decode cX2_takeEnergy 77 = .ok (.iload_n 1, 1) := by decide +kernel
theorem dX2_takeEnergy_78 : decode cX2_takeEnergy 78 = .ok (.aload_n 0, 1) := by decide +kernel
theorem dX2_takeEnergy_79 : decode cX2_takeEnergy 79 = .ok (.getfield 105, 3) := by decide +kernel
theorem dX2_takeEnergy_82 : decode cX2_takeEnergy 82 = .ok (.iastore, 1) := by decide +kernel
theorem dX2_takeEnergy_83 : decode cX2_takeEnergy 83 = .ok (.iconst 1, 1) := by decide +kernel
theorem dX2_takeEnergy_84 : decode cX2_takeEnergy 84 = .ok (.ireturn, 1) := by decide +kernel
theorem dX2_takeMeant_0 : decode cX2_takeMeant 0 = .ok (.aload_n 0, 1) := by decide +kernel
theorem dX2_takeMeant_1 : decode cX2_takeMeant 1 = .ok (.getfield 21, 3) := by decide +kernel
theorem dX2_takeMeant_4 : decode cX2_takeMeant 4 = .ok (.aload_n 0, 1) := by decide +kernel
theorem dX2_takeMeant_5 : decode cX2_takeMeant 5 = .ok (.getfield 33, 3) := by decide +kernel
theorem dX2_takeMeant_8 : decode cX2_takeMeant 8 = .ok (.invokevirtual 92, 3) := by decide +kernel
theorem dX2_takeMeant_11 : decode cX2_takeMeant 11 = .ok (.lstore_n 2, 1) := by decide +kernel
theorem dX2_takeMeant_12 : decode cX2_takeMeant 12 = .ok (.aload_n 0, 1) := by decide +kernel
theorem dX2_takeMeant_13 : decode cX2_takeMeant 13 = .ok (.getfield 25, 3) := by decide +kernel
theorem dX2_takeMeant_16 : decode cX2_takeMeant 16 = .ok (.getfield 68, 3) := by decide +kernel
theorem dX2_takeMeant_19 : decode cX2_takeMeant 19 = .ok (.lload_n 2, 1) := by decide +kernel
theorem dX2_takeMeant_20 : decode cX2_takeMeant 20 = .ok (.invokevirtual 154, 3) := by decide +kernel
theorem dX2_takeMeant_23 : decode cX2_takeMeant 23 = .ok (.istore 4, 2) := by decide +kernel
theorem dX2_takeMeant_25 : decode cX2_takeMeant 25 = .ok (.aload_n 0, 1) := by decide +kernel
theorem dX2_takeMeant_26 : decode cX2_takeMeant 26 = .ok (.getfield 25, 3) := by decide +kernel
theorem dX2_takeMeant_29 : decode cX2_takeMeant 29 = .ok (.getfield 182, 3) := by decide +kernel
theorem dX2_takeMeant_32 : decode cX2_takeMeant 32 = .ok (.lload_n 2, 1) := by decide +kernel
theorem dX2_takeMeant_33 : decode cX2_takeMeant 33 = .ok (.invokevirtual 154, 3) := by decide +kernel
theorem dX2_takeMeant_36 : decode cX2_takeMeant 36 = .ok (.istore 5, 2) := by decide +kernel
theorem dX2_takeMeant_38 : decode cX2_takeMeant 38 = .ok (.iload 4, 2) := by decide +kernel
theorem dX2_takeMeant_40 : decode cX2_takeMeant 40 = .ok (.iconst (-1), 1) := by decide +kernel
theorem dX2_takeMeant_41 : decode cX2_takeMeant 41 = .ok (.if_icmp .eq 22, 3) := by decide +kernel
theorem dX2_takeMeant_44 : decode cX2_takeMeant 44 = .ok (.aload_n 0, 1) := by decide +kernel
theorem dX2_takeMeant_45 : decode cX2_takeMeant 45 = .ok (.getfield 25, 3) := by decide +kernel
theorem dX2_takeMeant_48 : decode cX2_takeMeant 48 = .ok (.getfield 199, 3) := by decide +kernel
theorem dX2_takeMeant_51 : decode cX2_takeMeant 51 = .ok (.getfield 209, 3) := by decide +kernel
theorem dX2_takeMeant_54 : decode cX2_takeMeant 54 = .ok (.iload_n 1, 1) := by decide +kernel
theorem dX2_takeMeant_55 : decode cX2_takeMeant 55 = .ok (.iconst 1, 1) := by decide +kernel
theorem dX2_takeMeant_56 : decode cX2_takeMeant 56 = .ok (.iload 4, 2) := by decide +kernel
theorem dX2_takeMeant_58 : decode cX2_takeMeant 58 = .ok (.ishl, 1) := by decide +kernel
theorem dX2_takeMeant_59 : decode cX2_takeMeant 59 = .ok (.iastore, 1) := by decide +kernel
theorem dX2_takeMeant_60 : decode cX2_takeMeant 60 = .ok (.goto 30, 3) := by decide +kernel
theorem dX2_takeMeant_63 : decode cX2_takeMeant 63 = .ok (.iload 5, 2) := by decide +kernel
theorem dX2_takeMeant_65 : decode cX2_takeMeant 65 = .ok (.iconst (-1), 1) := by decide +kernel
theorem dX2_takeMeant_66 : decode cX2_takeMeant 66 = .ok (.if_icmp .eq 14, 3) := by decide +kernel
theorem dX2_takeMeant_69 : decode cX2_takeMeant 69 = .ok (.aload_n 0, 1) := by decide +kernel
theorem dX2_takeMeant_70 : decode cX2_takeMeant 70 = .ok (.getfield 18, 3) := by decide +kernel
theorem dX2_takeMeant_73 : decode cX2_takeMeant 73 = .ok (.iload_n 1, 1) := by decide +kernel
theorem dX2_takeMeant_74 : decode cX2_takeMeant 74 = .ok (.iload 5, 2) := by decide +kernel
theorem dX2_takeMeant_76 : decode cX2_takeMeant 76 = .ok (.iastore, 1) := by decide +kernel
theorem dX2_takeMeant_77 : decode cX2_takeMeant 77 = .ok (.goto 13, 3) := by decide +kernel
theorem dX2_takeMeant_80 : decode cX2_takeMeant 80 = .ok (.aload_n 0, 1) := by decide +kernel
theorem dX2_takeMeant_81 : decode cX2_takeMeant 81 = .ok (.iconst 2, 1) := by decide +kernel
theorem dX2_takeMeant_82 : decode cX2_takeMeant 82 = .ok (.aload_n 0, 1) := by decide +kernel
theorem dX2_takeMeant_83 : decode cX2_takeMeant 83 = .ok (.getfield 33, 3) := by decide +kernel
theorem dX2_takeMeant_86 : decode cX2_takeMeant 86 = .ok (.invokevirtual 82, 3) := by decide +kernel
theorem dX2_takeMeant_89 : decode cX2_takeMeant 89 = .ok (.ireturn, 1) := by decide +kernel
theorem dX2_takeMeant_90 : decode cX2_takeMeant 90 = .ok (.aload_n 0, 1) := by decide +kernel
theorem dX2_takeMeant_91 : decode cX2_takeMeant 91 = .ok (.dup, 1) := by decide +kernel
theorem dX2_takeMeant_92 : decode cX2_takeMeant 92 = .ok (.getfield 33, 3) := by decide +kernel
theorem dX2_takeMeant_95 : decode cX2_takeMeant 95 = .ok (.iconst 1, 1) := by decide +kernel
theorem dX2_takeMeant_96 : decode cX2_takeMeant 96 = .ok (.iadd, 1) := by decide +kernel
theorem dX2_takeMeant_97 : decode cX2_takeMeant 97 = .ok (.putfield 33, 3) := by decide +kernel
theorem dX2_takeMeant_100 : decode cX2_takeMeant 100 = .ok (.iconst 1, 1) := by decide +kernel
theorem dX2_takeMeant_101 : decode cX2_takeMeant 101 = .ok (.ireturn, 1) := by decide +kernel
theorem dX2_findMeantDishes_0 : decode cX2_findMeantDishes 0 = .ok (.iconst 0, 1) := by decide +kernel
theorem dX2_findMeantDishes_1 : decode cX2_findMeantDishes 1 = .ok (.istore_n 1, 1) := by decide +kernel
theorem dX2_findMeantDishes_2 : decode cX2_findMeantDishes 2 = .ok (.iload_n 1, 1) := by decide +kernel
theorem dX2_findMeantDishes_3 : decode cX2_findMeantDishes 3 = .ok (.aload_n 0, 1) := by decide +kernel
theorem dX2_findMeantDishes_4 : decode cX2_findMeantDishes 4 = .ok (.getfield 25, 3) := by decide +kernel
theorem dX2_findMeantDishes_7 : decode cX2_findMeantDishes 7 = .ok (.getfield 188, 3) := by decide +kernel
theorem dX2_findMeantDishes_10 : decode cX2_findMeantDishes 10 = .ok (.if_icmp .ge 43, 3) := by decide +kernel
theorem dX2_findMeantDishes_13 : decode cX2_findMeantDishes 13 = .ok (.iload_n 1, 1) := by decide +kernel
theorem dX2_findMeantDishes_14 : decode cX2_findMeantDishes 14 = .ok (.bipush 8, 2) := by decide +kernel
theorem dX2_findMeantDishes_16 : decode cX2_findMeantDishes 16 = .ok (.if_icmp .ge 37, 3) := by decide +kernel
theorem dX2_findMeantDishes_19 : decode cX2_findMeantDishes 19 = .ok (.aload_n 0, 1) := by decide +kernel
theorem dX2_findMeantDishes_20 : decode cX2_findMeantDishes 20 = .ok (.getfield 25, 3) := by decide +kernel
theorem dX2_findMeantDishes_23 : decode cX2_findMeantDishes 23 = .ok (.getfield 231, 3) := by decide +kernel
theorem dX2_findMeantDishes_26 : decode cX2_findMeantDishes 26 = .ok (.iload_n 1, 1) := by decide +kernel
theorem dX2_findMeantDishes_27 : decode cX2_findMeantDishes 27 = .ok (.aload_n 0, 1) := by decide +kernel
theorem dX2_findMeantDishes_28 : decode cX2_findMeantDishes 28 = .ok (.getfield 29, 3) := by decide +kernel
theorem dX2_findMeantDishes_31 : decode cX2_findMeantDishes 31 = .ok (.aload_n 0, 1) := by decide +kernel
theorem dX2_findMeantDishes_32 : decode cX2_findMeantDishes 32 = .ok (.getfield 9, 3) := by decide +kernel
theorem dX2_findMeantDishes_35 : decode cX2_findMeantDishes 35 = .ok (.iload_n 1, 1) := by decide +kernel
theorem dX2_findMeantDishes_36 : decode cX2_findMeantDishes 36 = .ok (.iaload, 1) := by decide +kernel
theorem dX2_findMeantDishes_37 : decode cX2_findMeantDishes 37 = .ok (.aload_n 0, 1) := by decide +kernel
theorem dX2_findMeantDishes_38 : decode cX2_findMeantDishes 38 = .ok (.getfield 15, 3) := by decide +kernel
theorem dX2_findMeantDishes_41 : decode cX2_findMeantDishes 41 = .ok (.iload_n 1, 1) := by decide +kernel
theorem dX2_findMeantDishes_42 : decode cX2_findMeantDishes 42 = .ok (.iaload, 1) := by decide +kernel
theorem dX2_findMeantDishes_43 : decode cX2_findMeantDishes 43 = .ok (.invokevirtual 234, 3) := by decide +kernel
theorem dX2_findMeantDishes_46 : decode cX2_findMeantDishes 46 = .ok (.iastore, 1) := by decide +kernel
theorem dX2_findMeantDishes_47 : decode cX2_findMeantDishes 47 = .ok (.iinc 1 1, 3) := by decide +kernel
theorem dX2_findMeantDishes_50 : decode cX2_findMeantDishes 50 = .ok (.goto (-48), 3) := by decide +kernel
theorem dX2_findMeantDishes_53 : decode cX2_findMeantDishes 53 = .ok (.iconst 0, 1) := by decide +kernel
theorem dX2_findMeantDishes_54 : decode cX2_findMeantDishes 54 = .ok (.istore_n 1, 1) := by decide +kernel
theorem dX2_findMeantDishes_55 : decode cX2_findMeantDishes 55 = .ok (.iload_n 1, 1) := by decide +kernel
theorem dX2_findMeantDishes_56 : decode cX2_findMeantDishes 56 = .ok (.aload_n 0, 1) := by decide +kernel
theorem dX2_findMeantDishes_57 : decode cX2_findMeantDishes 57 = .ok (.getfield 25, 3) := by decide +kernel
theorem dX2_findMeantDishes_60 : decode cX2_findMeantDishes 60 = .ok (.getfield 199, 3) := by decide +kernel
theorem dX2_findMeantDishes_63 : decode cX2_findMeantDishes 63 = .ok (.getfield 203, 3) := by decide +kernel
theorem dX2_findMeantDishes_66 : decode cX2_findMeantDishes 66 = .ok (.if_icmp .ge 50, 3) := by decide +kernel
theorem dX2_findMeantDishes_69 : decode cX2_findMeantDishes 69 = .ok (.iload_n 1, 1) := by decide +kernel
theorem dX2_findMeantDishes_70 : decode cX2_findMeantDishes 70 = .ok (.bipush 8, 2) := by decide +kernel
theorem dX2_findMeantDishes_72 : decode cX2_findMeantDishes 72 = .ok (.if_icmp .ge 44, 3) := by decide +kernel
theorem dX2_findMeantDishes_75 : decode cX2_findMeantDishes 75 = .ok (.aload_n 0, 1) := by decide +kernel
theorem dX2_findMeantDishes_76 : decode cX2_findMeantDishes 76 = .ok (.getfield 18, 3) := by decide +kernel
theorem dX2_findMeantDishes_79 : decode cX2_findMeantDishes 79 = .ok (.iload_n 1, 1) := by decide +kernel
theorem dX2_findMeantDishes_80 : decode cX2_findMeantDishes 80 = .ok (.iaload, 1) := by decide +kernel
theorem dX2_findMeantDishes_81 : decode cX2_findMeantDishes 81 = .ok (.iconst (-1), 1) := by decide +kernel
theorem dX2_findMeantDishes_82 : decode cX2_findMeantDishes 82 = .ok (.if_icmp .eq 28, 3) := by decide +kernel
theorem dX2_findMeantDishes_85 : decode cX2_findMeantDishes 85 = .ok (.aload_n 0, 1) := by decide +kernel
theorem dX2_findMeantDishes_86 : decode cX2_findMeantDishes 86 = .ok (.getfield 25, 3) := by decide +kernel
theorem dX2_findMeantDishes_89 : decode cX2_findMeantDishes 89 = .ok (.getfield 199, 3) := by decide +kernel
theorem dX2_findMeantDishes_92 : decode cX2_findMeantDishes 92 = .ok (.getfield 209, 3) := by decide +kernel
theorem dX2_findMeantDishes_95 : decode cX2_findMeantDishes 95 = .ok (.iload_n 1, 1) := by decide +kernel
theorem dX2_findMeantDishes_96 : decode cX2_findMeantDishes 96 = .ok (.aload_n 0, 1) := by decide +kernel
theorem dX2_findMeantDishes_97 : decode cX2_findMeantDishes 97 = .ok (.getfield 25, 3) := by decide +kernel
theorem dX2_findMeantDishes_100 : decode cX2_findMeantDishes 100 = .ok (.aload_n 0, 1) := by decide +kernel
theorem dX2_findMeantDishes_101 : decode cX2_findMeantDishes 101 = .ok (.getfield 18, 3) := by decide +kernel
theorem dX2_findMeantDishes_104 : decode cX2_findMeantDishes 104 = .ok (.iload_n 1, 1) := by decide +kernel
theorem dX2_findMeantDishes_105 : decode cX2_findMeantDishes 105 = .ok (.iaload, 1) := by decide +kernel
theorem dX2_findMeantDishes_106 : decode cX2_findMeantDishes 106 = .ok (.invokevirtual 237, 3) := by decide +kernel
theorem dX2_findMeantDishes_109 : decode cX2_findMeantDishes 109 = .ok (.iastore, 1) := by decide +kernel
theorem dX2_findMeantDishes_110 : decode cX2_findMeantDishes 110 = .ok (.iinc 1 1, 3) := by decide +kernel
theorem dX2_findMeantDishes_113 : decode cX2_findMeantDishes 113 = .ok (.goto (-58), 3) := by decide +kernel
theorem dX2_findMeantDishes_116 : decode cX2_findMeantDishes 116 = .ok (.return_, 1) := by decide +kernel
theorem dX2_takeNewName_0 : decode cX2_takeNewName 0 = .ok (.aload_n 0, 1) := by decide +kernel
theorem dX2_takeNewName_1 : decode cX2_takeNewName 1 = .ok (.getfield 25, 3) := by decide +kernel
theorem dX2_takeNewName_4 : decode cX2_takeNewName 4 = .ok (.aload_n 0, 1) := by decide +kernel
theorem dX2_takeNewName_5 : decode cX2_takeNewName 5 = .ok (.getfield 21, 3) := by decide +kernel
theorem dX2_takeNewName_8 : decode cX2_takeNewName 8 = .ok (.aload_n 0, 1) := by decide +kernel
theorem dX2_takeNewName_9 : decode cX2_takeNewName 9 = .ok (.getfield 33, 3) := by decide +kernel
theorem dX2_takeNewName_12 : decode cX2_takeNewName 12 = .ok (.invokevirtual 92, 3) := by decide +kernel
theorem dX2_takeNewName_15 : decode cX2_takeNewName 15 = .ok (.invokevirtual 240, 3) := by decide +kernel
theorem dX2_takeNewName_18 : decode cX2_takeNewName 18 = .ok (.ifCond .eq 13, 3) := by decide +kernel
theorem dX2_takeNewName_21 : decode cX2_takeNewName 21 = .ok (.aload_n 0, 1) := by decide +kernel
theorem dX2_takeNewName_22 : decode cX2_takeNewName 22 = .ok (.iconst 3, 1) := by decide +kernel
theorem dX2_takeNewName_23 : decode cX2_takeNewName 23 = .ok (.aload_n 0, 1) := by decide +kernel
theorem dX2_takeNewName_24 : decode cX2_takeNewName 24 = .ok (.getfield 33, 3) := by decide +kernel
theorem dX2_takeNewName_27 : decode cX2_takeNewName 27 = .ok (.invokevirtual 82, 3) := by decide +kernel
theorem dX2_takeNewName_30 : decode cX2_takeNewName 30 = .ok (.ireturn, 1) := by decide +kernel
theorem dX2_takeNewName_31 : decode cX2_takeNewName 31 = .ok (.aload_n 0, 1) := by decide +kernel
theorem dX2_takeNewName_32 : decode cX2_takeNewName 32 = .ok (.dup, 1) := by decide +kernel
theorem dX2_takeNewName_33 : decode cX2_takeNewName 33 = .ok (.getfield 33, 3) := by decide +kernel
theorem dX2_takeNewName_36 : decode cX2_takeNewName 36 = .ok (.iconst 1, 1) := by decide +kernel
theorem dX2_takeNewName_37 : decode cX2_takeNewName 37 = .ok (.iadd, 1) := by decide +kernel
theorem dX2_takeNewName_38 : decode cX2_takeNewName 38 = .ok (.putfield 33, 3) := by decide +kernel
theorem dX2_takeNewName_41 : decode cX2_takeNewName 41 = .ok (.iconst 1, 1) := by decide +kernel
theorem dX2_takeNewName_42 : decode cX2_takeNewName 42 = .ok (.ireturn, 1) := by decide +kernel
theorem dX2_takeNumber_0 : decode cX2_takeNumber 0 = .ok (.aload_n 0, 1) := by decide +kernel
theorem dX2_takeNumber_1 : decode cX2_takeNumber 1 = .ok (.getfield 21, 3) := by decide +kernel
theorem dX2_takeNumber_4 : decode cX2_takeNumber 4 = .ok (.aload_n 0, 1) := by decide +kernel
theorem dX2_takeNumber_5 : decode cX2_takeNumber 5 = .ok (.getfield 33, 3) := by decide +kernel
theorem dX2_takeNumber_8 : decode cX2_takeNumber 8 = .ok (.invokevirtual 92, 3) := by decide +kernel
theorem dX2_takeNumber_11 : decode cX2_takeNumber 11 = .ok (.lstore_n 3, 1) := by decide +kernel
theorem dX2_takeNumber_12 : decode cX2_takeNumber 12 = .ok (.lload_n 3, 1) := by decide +kernel
theorem dX2_takeNumber_13 : decode cX2_takeNumber 13 = .ok (.iload_n 1, 1) := by decide +kernel
theorem dX2_takeNumber_14 : decode cX2_takeNumber 14 = .ok (.i2l, 1) := by decide +kernel
theorem dX2_takeNumber_15 : decode cX2_takeNumber 15 = .ok (.lcmp, 1) := by decide +kernel
theorem dX2_takeNumber_16 : decode cX2_takeNumber 16 = .ok (.ifCond .lt 10, 3) := by decide +kernel
theorem dX2_takeNumber_19 : decode cX2_takeNumber 19 = .ok (.lload_n 3, 1) := by decide +kernel
theorem dX2_takeNumber_20 : decode cX2_takeNumber 20 = .ok (.iload_n 2, 1) := by decide +kernel
theorem dX2_takeNumber_21 : decode cX2_takeNumber 21 = .ok (.i2l, 1) := by decide +kernel
theorem dX2_takeNumber_22 : decode cX2_takeNumber 22 = .ok (.lcmp, 1) := by decide +kernel
theorem dX2_takeNumber_23 : decode cX2_takeNumber 23 = .ok (.ifCond .le 13, 3) := by decide +kernel
theorem dX2_takeNumber_26 : decode cX2_takeNumber 26 = .ok (.aload_n 0, 1) := by decide +kernel
theorem dX2_takeNumber_27 : decode cX2_takeNumber 27 = .ok (.iconst 5, 1) := by decide +kernel
theorem dX2_takeNumber_28 : decode cX2_takeNumber 28 = .ok (.aload_n 0, 1) := by decide +kernel
theorem dX2_takeNumber_29 : decode cX2_takeNumber 29 = .ok (.getfield 33, 3) := by decide +kernel
theorem dX2_takeNumber_32 : decode cX2_takeNumber 32 = .ok (.invokevirtual 82, 3) := by decide +kernel
theorem dX2_takeNumber_35 : decode cX2_takeNumber 35 = .ok (.ireturn, 1) := by decide +kernel
theorem dX2_takeNumber_36 : decode cX2_takeNumber 36 = .ok (.aload_n 0, 1) := by decide +kernel
theorem dX2_takeNumber_37 : decode cX2_takeNumber 37 = .ok (.lload_n 3, 1) := by decide +kernel
theorem dX2_takeNumber_38 : decode cX2_takeNumber 38 = .ok (.l2i, 1) := by decide +kernel
theorem dX2_takeNumber_39 : decode cX2_takeNumber 39 = .ok (.putfield 105, 3) := by decide +kernel
theorem dX2_takeNumber_42 : decode cX2_takeNumber 42 = .ok (.aload_n 0, 1) := by decide +kernel
theorem dX2_takeNumber_43 : decode cX2_takeNumber 43 = .ok (.dup, 1) := by decide +kernel
theorem dX2_takeNumber_44 : decode cX2_takeNumber 44 = .ok (.getfield 33, 3) := by decide +kernel
theorem dX2_takeNumber_47 : decode cX2_takeNumber 47 = .ok (.iconst 1, 1) := by decide +kernel
theorem dX2_takeNumber_48 : decode cX2_takeNumber 48 = .ok (.iadd, 1) := by decide +kernel
theorem dX2_takeNumber_49 : decode cX2_takeNumber 49 = .ok (.putfield 33, 3) := by decide +kernel
theorem dX2_takeNumber_52 : decode cX2_takeNumber 52 = .ok (.iconst 1, 1) := by decide +kernel
theorem dX2_takeNumber_53 : decode cX2_takeNumber 53 = .ok (.ireturn, 1) := by decide +kernel
theorem dX2_isKind_0 : decode cX2_isKind 0 = .ok (.aload_n 0, 1) := by decide +kernel
theorem dX2_isKind_1 : decode cX2_isKind 1 = .ok (.getfield 21, 3) := by decide +kernel
theorem dX2_isKind_4 : decode cX2_isKind 4 = .ok (.aload_n 0, 1) := by decide +kernel
theorem dX2_isKind_5 : decode cX2_isKind 5 = .ok (.getfield 33, 3) := by decide +kernel
theorem dX2_isKind_8 : decode cX2_isKind 8 = .ok (.invokevirtual 51, 3) := by decide +kernel
theorem dX2_isKind_11 : decode cX2_isKind 11 = .ok (.iload_n 1, 1) := by decide +kernel
theorem dX2_isKind_12 : decode cX2_isKind 12 = .ok (.if_icmp .ne 7, 3) := by decide +kernel
theorem dX2_isKind_15 : decode cX2_isKind 15 = .ok (.iconst 1, 1) := by decide +kernel
theorem dX2_isKind_16 : decode cX2_isKind 16 = .ok (.goto 4, 3) := by decide +kernel
theorem dX2_isKind_19 : decode cX2_isKind 19 = .ok (.iconst 0, 1) := by decide +kernel
theorem dX2_isKind_20 : decode cX2_isKind 20 = .ok (.ireturn, 1) := by decide +kernel
theorem dX2_fail_0 : decode cX2_fail 0 = .ok (.aload_n 0, 1) := by decide +kernel
theorem dX2_fail_1 : decode cX2_fail 1 = .ok (.iload_n 1, 1) := by decide +kernel
theorem dX2_fail_2 : decode cX2_fail 2 = .ok (.putfield 37, 3) := by decide +kernel
theorem dX2_fail_5 : decode cX2_fail 5 = .ok (.aload_n 0, 1) := by decide +kernel
theorem dX2_fail_6 : decode cX2_fail 6 = .ok (.iload_n 2, 1) := by decide +kernel
theorem dX2_fail_7 : decode cX2_fail 7 = .ok (.putfield 40, 3) := by decide +kernel
theorem dX2_fail_10 : decode cX2_fail 10 = .ok (.iconst 0, 1) := by decide +kernel
theorem dX2_fail_11 : decode cX2_fail 11 = .ok (.ireturn, 1) := by decide +kernel
theorem dX3_init_0 : decode cX3_init 0 = .ok (.aload_n 0, 1) := by decide +kernel
theorem dX3_init_1 : decode cX3_init 1 = .ok (.invokespecial 3, 3) := by decide +kernel
theorem dX3_init_4 : decode cX3_init 4 = .ok (.aload_n 0, 1) := by decide +kernel
theorem dX3_init_5 : decode cX3_init 5 = .ok (.bipush 14, 2) := by decide +kernel
theorem dX3_init_7 : decode cX3_init 7 = .ok (.bipush 8, 2) := by decide +kernel
theorem dX3_init_9 : decode cX3_init 9 = .ok (.multianewarray 9 2, 4) := by decide +kernel
theorem dX3_init_13 : decode cX3_init 13 = .ok (.putfield 11, 3) := by decide +kernel
theorem dX3_init_16 : decode cX3_init 16 = .ok (.aload_n 0, 1) := by decide +kernel
theorem dX3_init_17 : decode cX3_init 17 = .ok (.bipush 8, 2) := by decide +kernel
theorem dX3_init_19 : decode cX3_init 19 = .ok (.bipush 14, 2) := by decide +kernel
theorem dX3_init_21 : decode cX3_init 21 = .ok (.multianewarray 9 2, 4) := by decide +kernel
theorem dX3_init_25 : decode cX3_init 25 = .ok (.putfield 16, 3) := by decide +kernel
theorem dX3_init_28 : decode cX3_init 28 = .ok (.aload_n 0, 1) := by decide +kernel
theorem dX3_init_29 : decode cX3_init 29 = .ok (.bipush 14, 2) := by decide +kernel
theorem dX3_init_31 : decode cX3_init 31 = .ok (.newarray .int, 2) := by decide +kernel
theorem dX3_init_33 : decode cX3_init 33 = .ok (.putfield 19, 3) := by decide +kernel
theorem dX3_init_36 : decode cX3_init 36 = .ok (.aload_n 0, 1) := by decide +kernel
theorem dX3_init_37 : decode cX3_init 37 = .ok (.bipush 16, 2) := by decide +kernel
theorem dX3_init_39 : decode cX3_init 39 = .ok (.newarray .int, 2) := by decide +kernel
theorem dX3_init_41 : decode cX3_init 41 = .ok (.putfield 23, 3) := by decide +kernel
theorem dX3_init_44 : decode cX3_init 44 = .ok (.aload_n 0, 1) := by decide +kernel
theorem dX3_init_45 : decode cX3_init 45 = .ok (.bipush 8, 2) := by decide +kernel
theorem dX3_init_47 : decode cX3_init 47 = .ok (.newarray .int, 2) := by decide +kernel
theorem dX3_init_49 : decode cX3_init 49 = .ok (.putfield 26, 3) := by decide +kernel
theorem dX3_init_52 : decode cX3_init 52 = .ok (.aload_n 0, 1) := by decide +kernel
theorem dX3_init_53 : decode cX3_init 53 = .ok (.aload_n 1, 1) := by decide +kernel
theorem dX3_init_54 : decode cX3_init 54 = .ok (.putfield 29, 3) := by decide +kernel
theorem dX3_init_57 : decode cX3_init 57 = .ok (.return_, 1) := by decide +kernel
theorem dX3_begin_0 : decode cX3_begin 0 = .ok (.aload_n 0, 1) := by decide +kernel
theorem dX3_begin_1 : decode cX3_begin 1 = .ok (.iload_n 1, 1) := by decide +kernel
theorem dX3_begin_2 : decode cX3_begin 2 = .ok (.ifCond .lt 9, 3) := by decide +kernel
theorem dX3_begin_5 : decode cX3_begin 5 = .ok (.iload_n 1, 1) := by decide +kernel
theorem dX3_begin_6 : decode cX3_begin 6 = .ok (.bipush 14, 2) := by decide +kernel
theorem dX3_begin_8 : decode cX3_begin 8 = .ok (.if_icmp .le 7, 3) := by decide +kernel
theorem dX3_begin_11 : decode cX3_begin 11 = .ok (.iconst 0, 1) := by decide +kernel
theorem dX3_begin_12 : decode cX3_begin 12 = .ok (.goto 4, 3) := by decide +kernel
theorem dX3_begin_15 : decode cX3_begin 15 = .ok (.iload_n 1, 1) := by decide +kernel
theorem dX3_begin_16 : decode cX3_begin 16 = .ok (.putfield 33, 3) := by decide +kernel
theorem dX3_begin_19 : decode cX3_begin 19 = .ok (.aload_n 0, 1) := by decide +kernel
theorem dX3_begin_20 : decode cX3_begin 20 = .ok (.aload_n 0, 1) := by decide +kernel
theorem dX3_begin_21 : decode cX3_begin 21 = .ok (.getfield 33, 3) := by decide +kernel
theorem dX3_begin_24 : decode cX3_begin 24 = .ok (.aload_n 0, 1) := by decide +kernel
theorem dX3_begin_25 : decode cX3_begin 25 = .ok (.getfield 29, 3) := by decide +kernel
theorem dX3_begin_28 : decode cX3_begin 28 = .ok (.getfield 37, 3) := by decide +kernel
theorem dX3_begin_31 : decode cX3_begin 31 = .ok (.imul, 1) := by decide +kernel
theorem dX3_begin_32 : decode cX3_begin 32 = .ok (.putfield 42, 3) := by decide +kernel
theorem dX3_begin_35 : decode cX3_begin 35 = .ok (.iconst 0, 1) := by decide +kernel
theorem dX3_begin_36 : decode cX3_begin 36 = .ok (.istore_n 2, 1) := by decide +kernel
theorem dX3_begin_37 : decode cX3_begin 37 = .ok (.iload_n 2, 1) := by decide +kernel
theorem dX3_begin_38 : decode cX3_begin 38 = .ok (.bipush 14, 2) := by decide +kernel
theorem dX3_begin_40 : decode cX3_begin 40 = .ok (.if_icmp .ge 62, 3) := by decide +kernel
theorem dX3_begin_43 : decode cX3_begin 43 = .ok (.aload_n 0, 1) := by decide +kernel
theorem dX3_begin_44 : decode cX3_begin 44 = .ok (.getfield 19, 3) := by decide +kernel
theorem dX3_begin_47 : decode cX3_begin 47 = .ok (.iload_n 2, 1) := by decide +kernel
theorem dX3_begin_48 : decode cX3_begin 48 = .ok (.iconst 0, 1) := by decide +kernel
theorem dX3_begin_49 : decode cX3_begin 49 = .ok (.iastore, 1) := by decide +kernel
theorem dX3_begin_50 : decode cX3_begin 50 = .ok (.iconst 0, 1) := by decide +kernel
theorem dX3_begin_51 : decode cX3_begin 51 = .ok (.istore_n 3, 1) := by decide +kernel
theorem dX3_begin_52 : decode cX3_begin 52 = .ok (.iload_n 3, 1) := by decide +kernel
theorem dX3_begin_53 : decode cX3_begin 53 = .ok (.bipush 8, 2) := by decide +kernel
theorem dX3_begin_55 : decode cX3_begin 55 = .ok (.if_icmp .ge 18, 3) := by decide +kernel
theorem dX3_begin_58 : decode cX3_begin 58 = .ok (.aload_n 0, 1) := by decide +kernel
theorem dX3_begin_59 : decode cX3_begin 59 = .ok (.getfield 11, 3) := by decide +kernel
theorem dX3_begin_62 : decode cX3_begin 62 = .ok (.iload_n 2, 1) := by decide +kernel
theorem dX3_begin_63 : decode cX3_begin 63 = .ok (.aaload, 1) := by decide +kernel
theorem dX3_begin_64 : decode cX3_begin 64 = .ok (.iload_n 3, 1) := by decide +kernel
theorem dX3_begin_65 : decode cX3_begin 65 = .ok (.iconst (-1), 1) := by decide +kernel
theorem dX3_begin_66 : decode cX3_begin 66 = .ok (.iastore, 1) := by decide +kernel
theorem dX3_begin_67 : decode cX3_begin 67 = .ok (.iinc 3 1, 3) := by decide +kernel
theorem dX3_begin_70 : decode cX3_begin 70 = .ok (.goto (-18), 3) := by decide +kernel
theorem dX3_begin_73 : decode cX3_begin 73 = .ok (.iconst 0, 1) := by decide +kernel
theorem dX3_begin_74 : decode cX3_begin 74 = .ok (.istore_n 3, 1) := by decide +kernel
theorem dX3_begin_75 : decode cX3_begin 75 = .ok (.iload_n 3, 1) := by decide +kernel
theorem dX3_begin_76 : decode cX3_begin 76 = .ok (.bipush 8, 2) := by decide +kernel
theorem dX3_begin_78 : decode cX3_begin 78 = .ok (.if_icmp .ge 18, 3) := by decide +kernel
theorem dX3_begin_81 : decode cX3_begin 81 = .ok (.aload_n 0, 1) := by decide +kernel
theorem dX3_begin_82 : decode cX3_begin 82 = .ok (.getfield 16, 3) := by decide +kernel
theorem dX3_begin_85 : decode cX3_begin 85 = .ok (.iload_n 3, 1) := by decide +kernel
theorem dX3_begin_86 : decode cX3_begin 86 = .ok (.aaload, 1) := by decide +kernel
theorem dX3_begin_87 : decode cX3_begin 87 = .ok (.iload_n 2, 1) := by decide +kernel
theorem dX3_begin_88 : decode cX3_begin 88 = .ok (.iconst 0, 1) := by decide +kernel
theorem dX3_begin_89 : decode cX3_begin 89 = .ok (.iastore, 1) := by decide +kernel
theorem dX3_begin_90 : decode cX3_begin 90 = .ok (.iinc 3 1, 3) := by decide +kernel
theorem dX3_begin_93 : decode cX3_begin 93 = .ok (.goto (-18), 3) := by decide +kernel
theorem dX3_begin_96 : decode cX3_begin 96 = .ok (.iinc 2 1, 3) := by decide +kernel
theorem dX3_begin_99 : decode cX3_begin 99 = .ok (.goto (-62), 3) := by decide +kernel
theorem dX3_begin_102 : decode cX3_begin 102 = .ok (.iconst 0, 1) := by decide +kernel
theorem dX3_begin_103 : decode cX3_begin 103 = .ok (.istore_n 2, 1) := by decide +kernel
theorem dX3_begin_104 : decode cX3_begin 104 = .ok (.iload_n 2, 1) := by decide +kernel
theorem dX3_begin_105 : decode cX3_begin 105 = .ok (.bipush 16, 2) := by decide +kernel
theorem dX3_begin_107 : decode cX3_begin 107 = .ok (.if_icmp .ge 16, 3) := by decide +kernel
theorem dX3_begin_110 : decode cX3_begin 110 = .ok (.aload_n 0, 1) := by decide +kernel
theorem dX3_begin_111 : decode cX3_begin 111 = .ok (.getfield 23, 3) := by decide +kernel
theorem dX3_begin_114 : decode cX3_begin 114 = .ok (.iload_n 2, 1) := by decide +kernel
theorem dX3_begin_115 : decode cX3_begin 115 = .ok (.iconst 0, 1) := by decide +kernel
theorem dX3_begin_116 : decode cX3_begin 116 = .ok (.iastore, 1) := by decide +kernel
theorem dX3_begin_117 : decode cX3_begin 117 = .ok (.iinc 2 1, 3) := by decide +kernel
theorem dX3_begin_120 : decode cX3_begin 120 = .ok (.goto (-16), 3) := by decide +kernel
theorem dX3_begin_123 : decode cX3_begin 123 = .ok (.iconst 0, 1) := by decide +kernel
theorem dX3_begin_124 : decode cX3_begin 124 = .ok (.istore_n 2, 1) := by decide +kernel
theorem dX3_begin_125 : decode cX3_begin 125 = .ok (.iload_n 2, 1) := by decide +kernel
theorem dX3_begin_126 : decode cX3_begin 126 = .ok (.bipush 8, 2) := by decide +kernel
theorem dX3_begin_128 : decode cX3_begin 128 = .ok (.if_icmp .ge 21, 3) := by decide +kernel
theorem dX3_begin_131 : decode cX3_begin 131 = .ok (.aload_n 0, 1) := by decide +kernel
theorem dX3_begin_132 : decode cX3_begin 132 = .ok (.getfield 26, 3) := by decide +kernel
theorem dX3_begin_135 : decode cX3_begin 135 = .ok (.iload_n 2, 1) := by decide +kernel
theorem dX3_begin_136 : decode cX3_begin 136 = .ok (.iconst 0, 1) := by decide +kernel
theorem dX3_begin_137 : decode cX3_begin 137 = .ok (.iastore, 1) := by decide +kernel
theorem dX3_begin_138 : decode cX3_begin 138 = .ok (.aload_n 0, 1) := by decide +kernel
theorem dX3_begin_139 : decode cX3_begin 139 = .ok (.iload_n 2, 1) := by decide +kernel
theorem dX3_begin_140 : decode cX3_begin 140 = .ok (.invokevirtual 45, 3) := by decide +kernel
theorem dX3_begin_143 : decode cX3_begin 143 = .ok (.iinc 2 1, 3) := by decide +kernel
theorem dX3_begin_146 : decode cX3_begin 146 = .ok (.goto (-21), 3) := by decide +kernel
theorem dX3_begin_149 : decode cX3_begin 149 = .ok (.return_, 1) := by decide +kernel
theorem dX3_hasDay_0 : decode cX3_hasDay 0 = .ok (.iload_n 1, 1) := by decide +kernel
theorem dX3_hasDay_1 : decode cX3_hasDay 1 = .ok (.ifCond .lt 21, 3) := by decide +kernel
theorem dX3_hasDay_4 : decode cX3_hasDay 4 = .ok (.iload_n 1, 1) := by decide +kernel
theorem dX3_hasDay_5 : decode cX3_hasDay 5 = .ok (.aload_n 0, 1) := by decide +kernel
theorem dX3_hasDay_6 : decode cX3_hasDay 6 = .ok (.getfield 33, 3) := by decide +kernel
theorem dX3_hasDay_9 : decode cX3_hasDay 9 = .ok (.if_icmp .ge 13, 3) := by decide +kernel
theorem dX3_hasDay_12 : decode cX3_hasDay 12 = .ok (.iload_n 1, 1) := by decide +kernel
theorem dX3_hasDay_13 : decode cX3_hasDay 13 = .ok (.bipush 14, 2) := by decide +kernel
theorem dX3_hasDay_15 : decode cX3_hasDay 15 = .ok (.if_icmp .ge 7, 3) := by decide +kernel
theorem dX3_hasDay_18 : decode cX3_hasDay 18 = .ok (.iconst 1, 1) := by decide +kernel
theorem dX3_hasDay_19 : decode cX3_hasDay 19 = .ok (.goto 4, 3) := by decide +kernel
theorem dX3_hasDay_22 : decode cX3_hasDay 22 = .ok (.iconst 0, 1) := by decide +kernel
theorem dX3_hasDay_23 : decode cX3_hasDay 23 = .ok (.ireturn, 1) := by decide +kernel
theorem dX3_hasPlace_0 : decode cX3_hasPlace 0 = .ok (.aload_n 0, 1) := by decide +kernel
theorem dX3_hasPlace_1 : decode cX3_hasPlace 1 = .ok (.iload_n 1, 1) := by decide +kernel
theorem dX3_hasPlace_2 : decode cX3_hasPlace 2 = .ok (.invokevirtual 49, 3) := by decide +kernel
theorem dX3_hasPlace_5 : decode cX3_hasPlace 5 = .ok (.ifCond .eq 18, 3) := by decide +kernel
theorem dX3_hasPlace_8 : decode cX3_hasPlace 8 = .ok (.aload_n 0, 1) := by decide +kernel
theorem dX3_hasPlace_9 : decode cX3_hasPlace 9 = .ok (.getfield 29, 3) := by decide +kernel
theorem dX3_hasPlace_12 : decode cX3_hasPlace 12 = .ok (.iload_n 2, 1) := by decide +kernel
theorem dX3_hasPlace_13 : decode cX3_hasPlace 13 = .ok (.invokevirtual 53, 3) := by decide +kernel
theorem dX3_hasPlace_16 : decode cX3_hasPlace 16 = .ok (.ifCond .eq 7, 3) := by decide +kernel
theorem dX3_hasPlace_19 : decode cX3_hasPlace 19 = .ok (.iconst 1, 1) := by decide +kernel
theorem dX3_hasPlace_20 : decode cX3_hasPlace 20 = .ok (.goto 4, 3) := by decide +kernel
theorem dX3_hasPlace_23 : decode cX3_hasPlace 23 = .ok (.iconst 0, 1) := by decide +kernel
theorem dX3_hasPlace_24 : decode cX3_hasPlace 24 = .ok (.ireturn, 1) := by decide +kernel
theorem dX3_dishOn_0 : decode cX3_dishOn 0 = .ok (.aload_n 0, 1) := by decide +kernel
theorem dX3_dishOn_1 : decode cX3_dishOn 1 = .ok (.iload_n 1, 1) := by decide +kernel
theorem dX3_dishOn_2 : decode cX3_dishOn 2 = .ok (.iload_n 2, 1) := by decide +kernel
theorem dX3_dishOn_3 : decode cX3_dishOn 3 = .ok (.invokevirtual 56, 3) := by decide +kernel
theorem dX3_dishOn_6 : decode cX3_dishOn 6 = .ok (.ifCond .eq 14, 3) := by decide +kernel
theorem dX3_dishOn_9 : decode cX3_dishOn 9 = .ok (.aload_n 0, 1) := by decide +kernel
theorem dX3_dishOn_10 : decode cX3_dishOn 10 = .ok (.getfield 11, 3) := by decide +kernel
theorem dX3_dishOn_13 : decode cX3_dishOn 13 = .ok (.iload_n 1, 1) := by decide +kernel
theorem dX3_dishOn_14 : decode cX3_dishOn 14 = .ok (.aaload, 1) := by decide +kernel
theorem dX3_dishOn_15 : decode cX3_dishOn 15 = .ok (.iload_n 2, 1) := by decide +kernel
theorem dX3_dishOn_16 : decode cX3_dishOn 16 = .ok (.iaload, 1) := by decide +kernel
theorem dX3_dishOn_17 : decode cX3_dishOn 17 = .ok (.goto 4, 3) := by decide +kernel
theorem dX3_dishOn_20 : decode cX3_dishOn 20 = .ok (.iconst (-1), 1) := by decide +kernel
theorem dX3_dishOn_21 : decode cX3_dishOn 21 = .ok (.ireturn, 1) := by decide +kernel
theorem dX3_put_0 : decode cX3_put 0 = .ok (.aload_n 0, 1) := by decide +kernel
theorem dX3_put_1 : decode cX3_put 1 = .ok (.iload_n 1, 1) := by decide +kernel
theorem dX3_put_2 : decode cX3_put 2 = .ok (.iload_n 2, 1) := by decide +kernel
theorem dX3_put_3 : decode cX3_put 3 = .ok (.invokevirtual 56, 3) := by decide +kernel
theorem dX3_put_6 : decode cX3_put 6 = .ok (.ifCond .ne 4, 3) := by decide +kernel
theorem dX3_put_9 : decode cX3_put 9 = .ok (.return_, 1) := by decide +kernel
theorem dX3_put_10 : decode cX3_put 10 = .ok (.aload_n 0, 1) := by decide +kernel
theorem dX3_put_11 : decode cX3_put 11 = .ok (.getfield 11, 3) := by decide +kernel
theorem dX3_put_14 : decode cX3_put 14 = .ok (.iload_n 1, 1) := by decide +kernel
theorem dX3_put_15 : decode cX3_put 15 = .ok (.aaload, 1) := by decide +kernel
theorem dX3_put_16 : decode cX3_put 16 = .ok (.iload_n 2, 1) := by decide +kernel
theorem dX3_put_17 : decode cX3_put 17 = .ok (.iaload, 1) := by decide +kernel
theorem dX3_put_18 : decode cX3_put 18 = .ok (.istore 4, 2) := by decide +kernel
theorem dX3_put_20 : decode cX3_put 20 = .ok (.aload_n 0, 1) := by decide +kernel
theorem dX3_put_21 : decode cX3_put 21 = .ok (.getfield 11, 3) := by decide +kernel
theorem dX3_put_24 : decode cX3_put 24 = .ok (.iload_n 1, 1) := by decide +kernel
theorem dX3_put_25 : decode cX3_put 25 = .ok (.aaload, 1) := by decide +kernel
theorem dX3_put_26 : decode cX3_put 26 = .ok (.iload_n 2, 1) := by decide +kernel
theorem dX3_put_27 : decode cX3_put 27 = .ok (.iload_n 3, 1) := by decide +kernel
theorem dX3_put_28 : decode cX3_put 28 = .ok (.iastore, 1) := by decide +kernel
theorem dX3_put_29 : decode cX3_put 29 = .ok (.aload_n 0, 1) := by decide +kernel
theorem dX3_put_30 : decode cX3_put 30 = .ok (.iload_n 1, 1) := by decide +kernel
theorem dX3_put_31 : decode cX3_put 31 = .ok (.iload 4, 2) := by decide +kernel
theorem dX3_put_33 : decode cX3_put 33 = .ok (.iconst (-1), 1) := by decide +kernel
theorem dX3_put_34 : decode cX3_put 34 = .ok (.invokevirtual 60, 3) := by decide +kernel
theorem dX3_put_37 : decode cX3_put 37 = .ok (.aload_n 0, 1) := by decide +kernel
theorem dX3_put_38 : decode cX3_put 38 = .ok (.iload_n 1, 1) := by decide +kernel
theorem dX3_put_39 : decode cX3_put 39 = .ok (.iload_n 3, 1) := by decide +kernel
theorem dX3_put_40 : decode cX3_put 40 = .ok (.iconst 1, 1) := by decide +kernel
theorem dX3_put_41 : decode cX3_put 41 = .ok (.invokevirtual 60, 3) := by decide +kernel
theorem dX3_put_44 : decode cX3_put 44 = .ok (.iconst 0, 1) := by decide +kernel
theorem dX3_put_45 : decode cX3_put 45 = .ok (.istore 5, 2) := by decide +kernel
theorem dX3_put_47 : decode cX3_put 47 = .ok (.iload 5, 2) := by decide +kernel
theorem dX3_put_49 : decode cX3_put 49 = .ok (.aload_n 0, 1) := by decide +kernel
theorem dX3_put_50 : decode cX3_put 50 = .ok (.getfield 29, 3) := by decide +kernel
theorem dX3_put_53 : decode cX3_put 53 = .ok (.getfield 64, 3) := by decide +kernel
theorem dX3_put_56 : decode cX3_put 56 = .ok (.getfield 68, 3) := by decide +kernel
theorem dX3_put_59 : decode cX3_put 59 = .ok (.if_icmp .ge 76, 3) := by decide +kernel
theorem dX3_put_62 : decode cX3_put 62 = .ok (.iload 5, 2) := by decide +kernel
theorem dX3_put_64 : decode cX3_put 64 = .ok (.bipush 8, 2) := by decide +kernel
theorem dX3_put_66 : decode cX3_put 66 = .ok (.if_icmp .ge 69, 3) := by decide +kernel
theorem dX3_put_69 : decode cX3_put 69 = .ok (.aload_n 0, 1) := by decide +kernel
theorem dX3_put_70 : decode cX3_put 70 = .ok (.iload 5, 2) := by decide +kernel
theorem dX3_put_72 : decode cX3_put 72 = .ok (.iload_n 3, 1) := by decide +kernel
theorem dX3_put_73 : decode cX3_put 73 = .ok (.invokevirtual 73, 3) := by decide +kernel
theorem dX3_put_76 : decode cX3_put 76 = .ok (.aload_n 0, 1) := by decide +kernel
theorem dX3_put_77 : decode cX3_put 77 = .ok (.iload 5, 2) := by decide +kernel
theorem dX3_put_79 : decode cX3_put 79 = .ok (.iload 4, 2) := by decide +kernel
theorem dX3_put_81 : decode cX3_put 81 = .ok (.invokevirtual 73, 3) := by decide +kernel
theorem dX3_put_84 : decode cX3_put 84 = .ok (.isub, 1) := by decide +kernel
theorem dX3_put_85 : decode cX3_put 85 = .ok (.istore 6, 2) := by decide +kernel
theorem dX3_put_87 : decode cX3_put 87 = .ok (.aload_n 0, 1) := by decide +kernel
theorem dX3_put_88 : decode cX3_put 88 = .ok (.getfield 16, 3) := by decide +kernel
theorem dX3_put_91 : decode cX3_put 91 = .ok (.iload 5, 2) := by decide +kernel
theorem dX3_put_93 : decode cX3_put 93 = .ok (.aaload, 1) := by decide +kernel
theorem dX3_put_94 : decode cX3_put 94 = .ok (.iload_n 1, 1) := by decide +kernel
theorem dX3_put_95 : decode cX3_put 95 = .ok (.dup2, 1) := by decide +kernel
theorem dX3_put_96 : decode cX3_put 96 = .ok (.iaload, 1) := by decide +kernel
theorem dX3_put_97 : decode cX3_put 97 = .ok (.iload 6, 2) := by decide +kernel
theorem dX3_put_99 : decode cX3_put 99 = .ok (.iadd, 1) := by decide +kernel
theorem dX3_put_100 : decode cX3_put 100 = .ok (.iastore, 1) := by decide +kernel
theorem dX3_put_101 : decode cX3_put 101 = .ok (.iload 6, 2) := by decide +kernel
theorem dX3_put_103 : decode cX3_put 103 = .ok (.ifCond .ne 20, 3) := by decide +kernel
theorem dX3_put_106 : decode cX3_put 106 = .ok (.aload_n 0, 1) := by decide +kernel
theorem dX3_put_107 : decode cX3_put 107 = .ok (.getfield 29, 3) := by decide +kernel
theorem dX3_put_110 : decode cX3_put 110 = .ok (.getfield 64, 3) := by decide +kernel
theorem dX3_put_113 : decode cX3_put 113 = .ok (.getfield 77, 3) := by decide +kernel
theorem dX3_put_116 : decode cX3_put 116 = .ok (.iload 5, 2) := by decide +kernel
theorem dX3_put_118 : decode cX3_put 118 = .ok (.iaload, 1) := by decide +kernel
theorem dX3_put_119 : decode cX3_put 119 = .ok (.iconst 3, 1) := by decide +kernel
theorem dX3_put_120 : decode cX3_put 120 = .ok (.if_icmp .ne 9, 3) := by decide +kernel
theorem dX3_put_123 : decode cX3_put 123 = .ok (.aload_n 0, 1) := by decide +kernel
theorem dX3_put_124 : decode cX3_put 124 = .ok (.iload 5, 2) := by decide +kernel
theorem dX3_put_126 : decode cX3_put 126 = .ok (.invokevirtual 45, 3) := by decide +kernel
theorem dX3_put_129 : decode cX3_put 129 = .ok (.iinc 5 1, 3) := by decide +kernel
theorem dX3_put_132 : decode cX3_put 132 = .ok (.goto (-85), 3) := by decide +kernel
theorem dX3_put_135 : decode cX3_put 135 = .ok (.return_, 1) := by decide +kernel
theorem dX3_allFaults_0 : decode cX3_allFaults 0 = .ok (.aload_n 0, 1) := by decide +kernel
theorem dX3_allFaults_1 : decode cX3_allFaults 1 = .ok (.getfield 42, 3) := by decide +kernel
theorem dX3_allFaults_4 : decode cX3_allFaults 4 = .ok (.istore_n 1, 1) := by decide +kernel
theorem dX3_allFaults_5 : decode cX3_allFaults 5 = .ok (.iconst 0, 1) := by decide +kernel
theorem dX3_allFaults_6 : decode cX3_allFaults 6 = .ok (.istore_n 2, 1) := by decide +kernel
theorem dX3_allFaults_7 : decode cX3_allFaults 7 = .ok (.iload_n 2, 1) := by decide +kernel
theorem dX3_allFaults_8 : decode cX3_allFaults 8 = .ok (.aload_n 0, 1) := by decide +kernel
theorem dX3_allFaults_9 : decode cX3_allFaults 9 = .ok (.getfield 29, 3) := by decide +kernel
theorem dX3_allFaults_12 : decode cX3_allFaults 12 = .ok (.getfield 64, 3) := by decide +kernel
theorem dX3_allFaults_15 : decode cX3_allFaults 15 = .ok (.getfield 68, 3) := by decide +kernel
theorem dX3_allFaults_18 : decode cX3_allFaults 18 = .ok (.if_icmp .ge 24, 3) := by decide +kernel
theorem dX3_allFaults_21 : decode cX3_allFaults 21 = .ok (.iload_n 2, 1) := by decide +kernel
theorem dX3_allFaults_22 : decode cX3_allFaults 22 = .ok (.bipush 8, 2) := by decide +kernel
theorem dX3_allFaults_24 : decode cX3_allFaults 24 = .ok (.if_icmp .ge 18, 3) := by decide +kernel
theorem dX3_allFaults_27 : decode cX3_allFaults 27 = .ok (.iload_n 1, 1) := by decide +kernel
theorem dX3_allFaults_28 : decode cX3_allFaults 28 = .ok (.aload_n 0, 1) := by decide +kernel
theorem dX3_allFaults_29 : decode cX3_allFaults 29 = .ok (.getfield 26, 3) := by decide +kernel
theorem dX3_allFaults_32 : decode cX3_allFaults 32 = .ok (.iload_n 2, 1) := by decide +kernel
theorem dX3_allFaults_33 : decode cX3_allFaults 33 = .ok (.iaload, 1) := by decide +kernel
theorem dX3_allFaults_34 : decode cX3_allFaults 34 = .ok (.iadd, 1) := by decide +kernel
theorem dX3_allFaults_35 : decode cX3_allFaults 35 = .ok (.istore_n 1, 1) := by decide +kernel
theorem dX3_allFaults_36 : decode cX3_allFaults 36 = .ok (.iinc 2 1, 3) := by decide +kernel
theorem dX3_allFaults_39 : decode cX3_allFaults 39 = .ok (.goto (-32), 3) := by decide +kernel
theorem dX3_allFaults_42 : decode cX3_allFaults 42 = .ok (.iload_n 1, 1) := by decide +kernel
theorem dX3_allFaults_43 : decode cX3_allFaults 43 = .ok (.ireturn, 1) := by decide +kernel
theorem dX3_faultsOfTooMuch_0 : decode cX3_faultsOfTooMuch 0 = .ok (.iconst 0, 1) := by decide +kernel
theorem dX3_faultsOfTooMuch_1 : decode cX3_faultsOfTooMuch 1 = .ok (.istore_n 1, 1) := by decide +kernel
theorem dX3_faultsOfTooMuch_2 : decode cX3_faultsOfTooMuch 2 = .ok (.iconst 0, 1) := by decide +kernel
theorem dX3_faultsOfTooMuch_3 : decode cX3_faultsOfTooMuch 3 = .ok (.istore_n 2, 1) := by decide +kernel
theorem dX3_faultsOfTooMuch_4 : decode cX3_faultsOfTooMuch 4 = .ok (.iload_n 2, 1) := by decide +kernel
theorem dX3_faultsOfTooMuch_5 : decode cX3_faultsOfTooMuch 5 = .ok (.aload_n 0, 1) := by decide +kernel
theorem dX3_faultsOfTooMuch_6 : decode cX3_faultsOfTooMuch 6 = .ok (.getfield 29, 3) := by decide +kernel
theorem dX3_faultsOfTooMuch_9 : decode cX3_faultsOfTooMuch 9 = .ok (.getfield 64, 3) := by decide +kernel
theorem dX3_faultsOfTooMuch_12 : decode cX3_faultsOfTooMuch 12 = .ok (.getfield 68, 3) := by decide +kernel
theorem dX3_faultsOfTooMuch_15 : decode cX3_faultsOfTooMuch 15 = .ok (.if_icmp .ge 46, 3) := by decide +kernel
theorem dX3_faultsOfTooMuch_18 : decode cX3_faultsOfTooMuch 18 = .ok (.iload_n 2, 1) := by decide +kernel
theorem dX3_faultsOfTooMuch_19 : decode cX3_faultsOfTooMuch 19 = .ok (.bipush 8, 2) := by decide +kernel
theorem dX3_faultsOfTooMuch_21 : decode cX3_faultsOfTooMuch 21 = .ok (.if_icmp .ge 40, 3) := by decide +kernel
theorem dX3_faultsOfTooMuch_24 : decode cX3_faultsOfTooMuch 24 = .ok (.aload_n 0, 1) := by decide +kernel
theorem dX3_faultsOfTooMuch_25 : decode cX3_faultsOfTooMuch 25 = .ok (.getfield 29, 3) := by decide +kernel
theorem dX3_faultsOfTooMuch_28 : decode cX3_faultsOfTooMuch 28 = .ok (.getfield 64, 3) := by decide +kernel
theorem dX3_faultsOfTooMuch_31 : decode cX3_faultsOfTooMuch 31 = .ok (.getfield 77, 3) := by decide +kernel
theorem dX3_faultsOfTooMuch_34 : decode cX3_faultsOfTooMuch 34 = .ok (.iload_n 2, 1) := by decide +kernel
theorem dX3_faultsOfTooMuch_35 : decode cX3_faultsOfTooMuch 35 = .ok (.iaload, 1) := by decide +kernel
theorem dX3_faultsOfTooMuch_36 : decode cX3_faultsOfTooMuch 36 = .ok (.istore_n 3, 1) := by decide +kernel
theorem dX3_faultsOfTooMuch_37 : decode cX3_faultsOfTooMuch 37 = .ok (.iload_n 3, 1) := by decide +kernel
theorem dX3_faultsOfTooMuch_38 : decode cX3_faultsOfTooMuch 38 = .ok (.ifCond .eq 8, 3) := by decide +kernel
theorem dX3_faultsOfTooMuch_41 : decode cX3_faultsOfTooMuch 41 = .ok (.iload_n 3, 1) := by decide +kernel
theorem dX3_faultsOfTooMuch_42 : decode cX3_faultsOfTooMuch 42 = .ok (.iconst 1, 1) := by decide +kernel
theorem dX3_faultsOfTooMuch_43 : decode cX3_faultsOfTooMuch 43 = .ok (.if_icmp .ne 12, 3) := by decide +kernel
theorem dX3_faultsOfTooMuch_46 : decode cX3_faultsOfTooMuch 46 = .ok (.iload_n 1, 1) := by decide +kernel
theorem dX3_faultsOfTooMuch_47 : decode cX3_faultsOfTooMuch 47 = .ok (.aload_n 0, 1) := by decide +kernel
theorem dX3_faultsOfTooMuch_48 : decode cX3_faultsOfTooMuch 48 = .ok (.getfield 26, 3) := by decide +kernel
theorem dX3_faultsOfTooMuch_51 : decode cX3_faultsOfTooMuch 51 = .ok (.iload_n 2, 1) := by decide +kernel
theorem dX3_faultsOfTooMuch_52 : decode cX3_faultsOfTooMuch 52 = .ok (.iaload, 1) := by decide +kernel
theorem dX3_faultsOfTooMuch_53 : decode cX3_faultsOfTooMuch 53 = .ok (.iadd, 1) := by decide +kernel
theorem dX3_faultsOfTooMuch_54 : decode cX3_faultsOfTooMuch 54 = .ok (.istore_n 1, 1) := by decide +kernel
theorem dX3_faultsOfTooMuch_55 : decode cX3_faultsOfTooMuch 55 = .ok (.iinc 2 1, 3) := by decide +kernel
theorem dX3_faultsOfTooMuch_58 : decode cX3_faultsOfTooMuch 58 = .ok (.goto (-54), 3) := by decide +kernel
theorem dX3_faultsOfTooMuch_61 : decode cX3_faultsOfTooMuch 61 = .ok (.iload_n 1, 1) := by decide +kernel
theorem dX3_faultsOfTooMuch_62 : decode cX3_faultsOfTooMuch 62 = .ok (.ireturn, 1) := by decide +kernel
theorem dX3_addTo_0 : decode cX3_addTo 0 = .ok (.lload_n 1, 1) := by decide +kernel
theorem dX3_addTo_1 : decode cX3_addTo 1 = .ok (.lstore_n 3, 1) := by decide +kernel
theorem dX3_addTo_2 : decode cX3_addTo 2 = .ok (.iconst 0, 1) := by decide +kernel
theorem dX3_addTo_3 : decode cX3_addTo 3 = .ok (.istore 5, 2) := by decide +kernel
theorem dX3_addTo_5 : decode cX3_addTo 5 = .ok (.iload 5, 2) := by decide +kernel
theorem dX3_addTo_7 : decode cX3_addTo 7 = .ok (.aload_n 0, 1) := by decide +kernel
theorem dX3_addTo_8 : decode cX3_addTo 8 = .ok (.getfield 33, 3) := by decide +kernel
theorem dX3_addTo_11 : decode cX3_addTo 11 = .ok (.if_icmp .ge 46, 3) := by decide +kernel
theorem dX3_addTo_14 : decode cX3_addTo 14 = .ok (.iconst 0, 1) := by decide +kernel
theorem dX3_addTo_15 : decode cX3_addTo 15 = .ok (.istore 6, 2) := by decide +kernel
theorem dX3_addTo_17 : decode cX3_addTo 17 = .ok (.iload 6, 2) := by decide +kernel
theorem dX3_addTo_19 : decode cX3_addTo 19 = .ok (.aload_n 0, 1) := by decide +kernel
theorem dX3_addTo_20 : decode cX3_addTo 20 = .ok (.getfield 29, 3) := by decide +kernel
theorem dX3_addTo_23 : decode cX3_addTo 23 = .ok (.getfield 37, 3) := by decide +kernel
theorem dX3_addTo_26 : decode cX3_addTo 26 = .ok (.if_icmp .ge 25, 3) := by decide +kernel
theorem dX3_addTo_29 : decode cX3_addTo 29 = .ok (.lload_n 3, 1) := by decide +kernel
theorem dX3_addTo_30 : decode cX3_addTo 30 = .ok (.ldc2_w 95, 3) := by decide +kernel
theorem dX3_addTo_33 : decode cX3_addTo 33 = .ok (.lmul, 1) := by decide +kernel
theorem dX3_addTo_34 : decode cX3_addTo 34 = .ok (.aload_n 0, 1) := by decide +kernel
theorem dX3_addTo_35 : decode cX3_addTo 35 = .ok (.iload 5, 2) := by decide +kernel
theorem dX3_addTo_37 : decode cX3_addTo 37 = .ok (.iload 6, 2) := by decide +kernel
theorem dX3_addTo_39 : decode cX3_addTo 39 = .ok (.invokevirtual 80, 3) := by decide +kernel
theorem dX3_addTo_42 : decode cX3_addTo 42 = .ok (.i2l, 1) := by decide +kernel
theorem dX3_addTo_43 : decode cX3_addTo 43 = .ok (.ladd, 1) := by decide +kernel
theorem dX3_addTo_44 : decode cX3_addTo 44 = .ok (.lstore_n 3, 1) := by decide +kernel
theorem dX3_addTo_45 : decode cX3_addTo 45 = .ok (.iinc 6 1, 3) := by decide +kernel
theorem dX3_addTo_48 : decode cX3_addTo 48 = .ok (.goto (-31), 3) := by decide +kernel
theorem dX3_addTo_51 : decode cX3_addTo 51 = .ok (.iinc 5 1, 3) := by decide +kernel
theorem dX3_addTo_54 : decode cX3_addTo 54 = .ok (.goto (-49), 3) := by decide +kernel
theorem dX3_addTo_57 : decode cX3_addTo 57 = .ok (.lload_n 3, 1) := by decide +kernel
theorem dX3_addTo_58 : decode cX3_addTo 58 = .ok (.ldc2_w 95, 3) := by decide +kernel
theorem dX3_addTo_61 : decode cX3_addTo 61 = .ok (.lmul, 1) := by decide +kernel
theorem dX3_addTo_62 : decode cX3_addTo 62 = .ok (.aload_n 0, 1) := by decide +kernel
theorem dX3_addTo_63 : decode cX3_addTo 63 = .ok (.invokevirtual 97, 3) := by decide +kernel
theorem dX3_addTo_66 : decode cX3_addTo 66 = .ok (.i2l, 1) := by decide +kernel
theorem dX3_addTo_67 : decode cX3_addTo 67 = .ok (.ladd, 1) := by decide +kernel
theorem dX3_addTo_68 : decode cX3_addTo 68 = .ok (.lreturn, 1) := by decide +kernel
theorem dX3_tally_0 : decode cX3_tally 0 = .ok (.aload_n 0, 1) := by decide +kernel
theorem dX3_tally_1 : decode cX3_tally 1 = .ok (.getfield 29, 3) := by decide +kernel
theorem dX3_tally_4 : decode cX3_tally 4 = .ok (.getfield 83, 3) := by decide +kernel
theorem dX3_tally_7 : decode cX3_tally 7 = .ok (.iload_n 2, 1) := by decide +kernel
theorem dX3_tally_8 : decode cX3_tally 8 = .ok (.invokevirtual 87, 3) := by decide +kernel
theorem dX3_tally_11 : decode cX3_tally 11 = .ok (.ifCond .eq 36, 3) := by decide +kernel
theorem dX3_tally_14 : decode cX3_tally 14 = .ok (.aload_n 0, 1) := by decide +kernel
theorem dX3_tally_15 : decode cX3_tally 15 = .ok (.getfield 23, 3) := by decide +kernel
theorem dX3_tally_18 : decode cX3_tally 18 = .ok (.iload_n 2, 1) := by decide +kernel
theorem dX3_tally_19 : decode cX3_tally 19 = .ok (.dup2, 1) := by decide +kernel
theorem dX3_tally_20 : decode cX3_tally 20 = .ok (.iaload, 1) := by decide +kernel
theorem dX3_tally_21 : decode cX3_tally 21 = .ok (.iload_n 3, 1) := by decide +kernel
theorem dX3_tally_22 : decode cX3_tally 22 = .ok (.iadd, 1) := by decide +kernel
theorem dX3_tally_23 : decode cX3_tally 23 = .ok (.iastore, 1) := by decide +kernel
theorem dX3_tally_24 : decode cX3_tally 24 = .ok (.aload_n 0, 1) := by decide +kernel
theorem dX3_tally_25 : decode cX3_tally 25 = .ok (.getfield 19, 3) := by decide +kernel
theorem dX3_tally_28 : decode cX3_tally 28 = .ok (.iload_n 1, 1) := by decide +kernel
theorem dX3_tally_29 : decode cX3_tally 29 = .ok (.dup2, 1) := by decide +kernel
theorem dX3_tally_30 : decode cX3_tally 30 = .ok (.iaload, 1) := by decide +kernel
theorem dX3_tally_31 : decode cX3_tally 31 = .ok (.iload_n 3, 1) := by decide +kernel
theorem dX3_tally_32 : decode cX3_tally 32 = .ok (.aload_n 0, 1) := by decide +kernel
theorem dX3_tally_33 : decode cX3_tally 33 = .ok (.getfield 29, 3) := by decide +kernel
theorem dX3_tally_36 : decode cX3_tally 36 = .ok (.getfield 101, 3) := by decide +kernel
theorem dX3_tally_39 : decode cX3_tally 39 = .ok (.iload_n 2, 1) := by decide +kernel
theorem dX3_tally_40 : decode cX3_tally 40 = .ok (.iaload, 1) := by decide +kernel
theorem dX3_tally_41 : decode cX3_tally 41 = .ok (.imul, 1) := by decide +kernel
theorem dX3_tally_42 : decode cX3_tally 42 = .ok (.iadd, 1) := by decide +kernel
theorem dX3_tally_43 : decode cX3_tally 43 = .ok (.iastore, 1) := by decide +kernel
theorem dX3_tally_44 : decode cX3_tally 44 = .ok (.goto 13, 3) := by decide +kernel
theorem dX3_tally_47 : decode cX3_tally 47 = .ok (.aload_n 0, 1) := by decide +kernel
theorem dX3_tally_48 : decode cX3_tally 48 = .ok (.dup, 1) := by decide +kernel
theorem dX3_tally_49 : decode cX3_tally 49 = .ok (.getfield 42, 3) := by decide +kernel
theorem dX3_tally_52 : decode cX3_tally 52 = .ok (.iload_n 3, 1) := by decide +kernel
theorem dX3_tally_53 : decode cX3_tally 53 = .ok (.iadd, 1) := by decide +kernel
theorem dX3_tally_54 : decode cX3_tally 54 = .ok (.putfield 42, 3) := by decide +kernel
theorem dX3_tally_57 : decode cX3_tally 57 = .ok (.return_, 1) := by decide +kernel
theorem dX3_meaning_0 : decode cX3_meaning 0 = .ok (.aload_n 0, 1) := by decide +kernel
theorem dX3_meaning_1 : decode cX3_meaning 1 = .ok (.getfield 29, 3) := by decide +kernel
theorem dX3_meaning_4 : decode cX3_meaning 4 = .ok (.getfield 83, 3) := by decide +kernel
theorem dX3_meaning_7 : decode cX3_meaning 7 = .ok (.iload_n 2, 1) := by decide +kernel
theorem dX3_meaning_8 : decode cX3_meaning 8 = .ok (.invokevirtual 87, 3) := by decide +kernel
theorem dX3_meaning_11 : decode cX3_meaning 11 = .ok (.ifCond .eq 22, 3) := by decide +kernel
theorem dX3_meaning_14 : decode cX3_meaning 14 = .ok (.aload_n 0, 1) := by decide +kernel
theorem dX3_meaning_15 : decode cX3_meaning 15 = .ok (.getfield 29, 3) := by decide +kernel
theorem dX3_meaning_18 : decode cX3_meaning 18 = .ok (.getfield 64, 3) := by decide +kernel
theorem dX3_meaning_21 : decode cX3_meaning 21 = .ok (.getfield 104, 3) := by decide +kernel
theorem dX3_meaning_24 : decode cX3_meaning 24 = .ok (.iload_n 1, 1) := by decide +kernel
theorem dX3_meaning_25 : decode cX3_meaning 25 = .ok (.iaload, 1) := by decide +kernel
theorem dX3_meaning_26 : decode cX3_meaning 26 = .ok (.iload_n 2, 1) := by decide +kernel
theorem dX3_meaning_27 : decode cX3_meaning 27 = .ok (.ishr, 1) := by decide +kernel
theorem dX3_meaning_28 : decode cX3_meaning 28 = .ok (.iconst 1, 1) := by decide +kernel
theorem dX3_meaning_29 : decode cX3_meaning 29 = .ok (.iand, 1) := by decide +kernel
theorem dX3_meaning_30 : decode cX3_meaning 30 = .ok (.goto 4, 3) := by decide +kernel
theorem dX3_meaning_33 : decode cX3_meaning 33 = .ok (.iconst 0, 1) := by decide +kernel
theorem dX3_meaning_34 : decode cX3_meaning 34 = .ok (.ireturn, 1) := by decide +kernel
theorem dX3_recount_0 : decode cX3_recount 0 = .ok (.aload_n 0, 1) := by decide +kernel
theorem dX3_recount_1 : decode cX3_recount 1 = .ok (.getfield 29, 3) := by decide +kernel
theorem dX3_recount_4 : decode cX3_recount 4 = .ok (.getfield 64, 3) := by decide +kernel
theorem dX3_recount_7 : decode cX3_recount 7 = .ok (.iload_n 1, 1) := by decide +kernel
theorem dX3_recount_8 : decode cX3_recount 8 = .ok (.invokevirtual 107, 3) := by decide +kernel
theorem dX3_recount_11 : decode cX3_recount 11 = .ok (.ifCond .ne 4, 3) := by decide +kernel
theorem dX3_recount_14 : decode cX3_recount 14 = .ok (.return_, 1) := by decide +kernel
theorem dX3_recount_15 : decode cX3_recount 15 = .ok (.aload_n 0, 1) := by decide +kernel
theorem dX3_recount_16 : decode cX3_recount 16 = .ok (.getfield 29, 3) := by decide +kernel
theorem dX3_recount_19 : decode cX3_recount 19 = .ok (.getfield 64, 3) := by decide +kernel
theorem dX3_recount_22 : decode cX3_recount 22 = .ok (.getfield 108, 3) := by decide +kernel
theorem dX3_recount_25 : decode cX3_recount 25 = .ok (.iload_n 1, 1) := by decide +kernel
theorem dX3_recount_26 : decode cX3_recount 26 = .ok (.iaload, 1) := by decide +kernel
theorem dX3_recount_27 : decode cX3_recount 27 = .ok (.istore_n 2, 1) := by decide +kernel
theorem dX3_recount_28 : decode cX3_recount 28 = .ok (.aload_n 0, 1) := by decide +kernel
theorem dX3_recount_29 : decode cX3_recount 29 = .ok (.getfield 29, 3) := by decide +kernel
theorem dX3_recount_32 : decode cX3_recount 32 = .ok (.getfield 64, 3) := by decide +kernel
theorem dX3_recount_35 : decode cX3_recount 35 = .ok (.getfield 111, 3) := by decide +kernel
theorem dX3_recount_38 : decode cX3_recount 38 = .ok (.iload_n 1, 1) := by decide +kernel
theorem dX3_recount_39 : decode cX3_recount 39 = .ok (.iaload, 1) := by decide +kernel
theorem dX3_recount_40 : decode cX3_recount 40 = .ok (.istore_n 3, 1) := by decide +kernel
theorem dX3_recount_41 : decode cX3_recount 41 = .ok (.aload_n 0, 1) := by decide +kernel
theorem dX3_recount_42 : decode cX3_recount 42 = .ok (.getfield 29, 3) := by decide +kernel
theorem dX3_recount_45 : decode cX3_recount 45 = .ok (.getfield 64, 3) := by decide +kernel
theorem dX3_recount_48 : decode cX3_recount 48 = .ok (.getfield 77, 3) := by decide +kernel
theorem dX3_recount_51 : decode cX3_recount 51 = .ok (.iload_n 1, 1) := by decide +kernel
theorem dX3_recount_52 : decode cX3_recount 52 = .ok (.iaload, 1) := by decide +kernel
theorem dX3_recount_53 : decode cX3_recount 53 = .ok (.tableswitch 84 0 2 #[27, 42, 66], 27) := by decide +kernel
theorem dX3_recount_80 : decode cX3_recount 80 = .ok (.aload_n 0, 1) := by decide +kernel
theorem dX3_recount_81 : decode cX3_recount 81 = .ok (.getfield 26, 3) := by decide +kernel
theorem dX3_recount_84 : decode cX3_recount 84 = .ok (.iload_n 1, 1) := by decide +kernel
theorem dX3_recount_85 : decode cX3_recount 85 = .ok (.aload_n 0, 1) := by decide +kernel
theorem dX3_recount_86 : decode cX3_recount 86 = .ok (.iload_n 1, 1) := by decide +kernel
theorem dX3_recount_87 : decode cX3_recount 87 = .ok (.iload_n 2, 1) := by decide +kernel
theorem dX3_recount_88 : decode cX3_recount 88 = .ok (.invokevirtual 114, 3) := by decide +kernel
theorem dX3_recount_91 : decode cX3_recount 91 = .ok (.iastore, 1) := by decide +kernel
theorem dX3_recount_92 : decode cX3_recount 92 = .ok (.goto 57, 3) := by decide +kernel
theorem dX3_recount_95 : decode cX3_recount 95 = .ok (.aload_n 0, 1) := by decide +kernel
theorem dX3_recount_96 : decode cX3_recount 96 = .ok (.getfield 26, 3) := by decide +kernel
theorem dX3_recount_99 : decode cX3_recount 99 = .ok (.iload_n 1, 1) := by decide +kernel
theorem dX3_recount_100 : decode cX3_recount 100 = .ok (.aload_n 0, 1) := by decide +kernel
theorem dX3_recount_101 : decode cX3_recount 101 = .ok (.iload_n 1, 1) := by decide +kernel
theorem dX3_recount_102 : decode cX3_recount 102 = .ok (.iconst 0, 1) := by decide +kernel
theorem dX3_recount_103 : decode cX3_recount 103 = .ok (.iload_n 2, 1) := by decide +kernel
theorem dX3_recount_104 : decode cX3_recount 104 = .ok (.iload_n 3, 1) := by decide +kernel
theorem dX3_recount_105 : decode cX3_recount 105 = .ok (.aload_n 0, 1) := by decide +kernel
theorem dX3_recount_106 : decode cX3_recount 106 = .ok (.getfield 33, 3) := by decide +kernel
theorem dX3_recount_109 : decode cX3_recount 109 = .ok (.invokestatic 117, 3) := by decide +kernel
theorem dX3_recount_112 : decode cX3_recount 112 = .ok (.invokevirtual 122, 3) := by decide +kernel
theorem dX3_recount_115 : decode cX3_recount 115 = .ok (.iastore, 1) := by decide +kernel
theorem dX3_recount_116 : decode cX3_recount 116 = .ok (.goto 33, 3) := by decide +kernel
theorem dX3_recount_119 : decode cX3_recount 119 = .ok (.aload_n 0, 1) := by decide +kernel
theorem dX3_recount_120 : decode cX3_recount 120 = .ok (.getfield 26, 3) := by decide +kernel
theorem dX3_recount_123 : decode cX3_recount 123 = .ok (.iload_n 1, 1) := by decide +kernel
theorem dX3_recount_124 : decode cX3_recount 124 = .ok (.aload_n 0, 1) := by decide +kernel
theorem dX3_recount_125 : decode cX3_recount 125 = .ok (.iload_n 1, 1) := by decide +kernel
theorem dX3_recount_126 : decode cX3_recount 126 = .ok (.iload_n 2, 1) := by decide +kernel
theorem dX3_recount_127 : decode cX3_recount 127 = .ok (.bipush 112, 2) := by decide +kernel
theorem dX3_recount_129 : decode cX3_recount 129 = .ok (.iload_n 3, 1) := by decide +kernel
theorem dX3_recount_130 : decode cX3_recount 130 = .ok (.invokevirtual 122, 3) := by decide +kernel
theorem dX3_recount_133 : decode cX3_recount 133 = .ok (.iastore, 1) := by decide +kernel
theorem dX3_recount_134 : decode cX3_recount 134 = .ok (.goto 15, 3) := by decide +kernel
theorem dX3_recount_137 : decode cX3_recount 137 = .ok (.aload_n 0, 1) := by decide +kernel
theorem dX3_recount_138 : decode cX3_recount 138 = .ok (.getfield 26, 3) := by decide +kernel
theorem dX3_recount_141 : decode cX3_recount 141 = .ok (.iload_n 1, 1) := by decide +kernel
theorem dX3_recount_142 : decode cX3_recount 142 = .ok (.aload_n 0, 1) := by decide +kernel
theorem dX3_recount_143 : decode cX3_recount 143 = .ok (.iload_n 2, 1) := by decide +kernel
theorem dX3_recount_144 : decode cX3_recount 144 = .ok (.iload_n 3, 1) := by decide +kernel
theorem dX3_recount_145 : decode cX3_recount 145 = .ok (.invokevirtual 126, 3) := by decide +kernel
theorem dX3_recount_148 : decode cX3_recount 148 = .ok (.iastore, 1) := by decide +kernel
theorem dX3_recount_149 : decode cX3_recount 149 = .ok (.return_, 1) := by decide +kernel
theorem dX3_closePairs_0 : decode cX3_closePairs 0 = .ok (.iconst 0, 1) := by decide +kernel
theorem dX3_closePairs_1 : decode cX3_closePairs 1 = .ok (.istore_n 3, 1) := by decide +kernel
theorem dX3_closePairs_2 : decode cX3_closePairs 2 = .ok (.iconst 0, 1) := by decide +kernel
theorem dX3_closePairs_3 : decode cX3_closePairs 3 = .ok (.istore 4, 2) := by decide +kernel
theorem dX3_closePairs_5 : decode cX3_closePairs 5 = .ok (.iconst 0, 1) := by decide +kernel
theorem dX3_closePairs_6 : decode cX3_closePairs 6 = .ok (.istore 5, 2) := by decide +kernel
theorem dX3_closePairs_8 : decode cX3_closePairs 8 = .ok (.iload 5, 2) := by decide +kernel
theorem dX3_closePairs_10 : decode cX3_closePairs 10 = .ok (.aload_n 0, 1) := by decide +kernel
theorem dX3_closePairs_11 : decode cX3_closePairs 11 = .ok (.getfield 33, 3) := by decide +kernel
theorem dX3_closePairs_14 : decode cX3_closePairs 14 = .ok (.if_icmp .ge 78, 3) := by decide +kernel
theorem dX3_closePairs_17 : decode cX3_closePairs 17 = .ok (.iload 5, 2) := by decide +kernel
theorem dX3_closePairs_19 : decode cX3_closePairs 19 = .ok (.bipush 14, 2) := by decide +kernel
theorem dX3_closePairs_21 : decode cX3_closePairs 21 = .ok (.if_icmp .ge 71, 3) := by decide +kernel
theorem dX3_closePairs_24 : decode cX3_closePairs 24 = .ok (.aload_n 0, 1) := by decide +kernel
theorem dX3_closePairs_25 : decode cX3_closePairs 25 = .ok (.getfield 16, 3) := by decide +kernel
theorem dX3_closePairs_28 : decode cX3_closePairs 28 = .ok (.iload_n 1, 1) := by decide +kernel
theorem dX3_closePairs_29 : decode cX3_closePairs 29 = .ok (.aaload, 1) := by decide +kernel
theorem dX3_closePairs_30 : decode cX3_closePairs 30 = .ok (.iload 5, 2) := by decide +kernel
theorem dX3_closePairs_32 : decode cX3_closePairs 32 = .ok (.iaload, 1) := by decide +kernel
theorem dX3_closePairs_33 : decode cX3_closePairs 33 = .ok (.istore 6, 2) := by decide +kernel
theorem dX3_closePairs_35 : decode cX3_closePairs 35 = .ok (.iload 5, 2) := by decide +kernel
theorem dX3_closePairs_37 : decode cX3_closePairs 37 = .ok (.iload_n 2, 1) := by decide +kernel
theorem dX3_closePairs_38 : decode cX3_closePairs 38 = .ok (.if_icmp .lt 23, 3) := by decide +kernel
theorem dX3_closePairs_41 : decode cX3_closePairs 41 = .ok (.iload_n 2, 1) := by decide +kernel
theorem dX3_closePairs_42 : decode cX3_closePairs 42 = .ok (.ifCond .lt 19, 3) := by decide +kernel
theorem dX3_closePairs_45 : decode cX3_closePairs 45 = .ok (.iload 4, 2) := by decide +kernel
theorem dX3_closePairs_47 : decode cX3_closePairs 47 = .ok (.aload_n 0, 1) := by decide +kernel
theorem dX3_closePairs_48 : decode cX3_closePairs 48 = .ok (.getfield 16, 3) := by decide +kernel
theorem dX3_closePairs_51 : decode cX3_closePairs 51 = .ok (.iload_n 1, 1) := by decide +kernel
theorem dX3_closePairs_52 : decode cX3_closePairs 52 = .ok (.aaload, 1) := by decide +kernel
theorem dX3_closePairs_53 : decode cX3_closePairs 53 = .ok (.iload 5, 2) := by decide +kernel
theorem dX3_closePairs_55 : decode cX3_closePairs 55 = .ok (.iload_n 2, 1) := by decide +kernel
theorem dX3_closePairs_56 : decode cX3_closePairs 56 = .ok (.isub, 1) := by decide +kernel
theorem dX3_closePairs_57 : decode cX3_closePairs 57 = .ok (.iaload, 1) := by decide +kernel
theorem dX3_closePairs_58 : decode cX3_closePairs 58 = .ok (.isub, 1) := by decide +kernel
theorem dX3_closePairs_59 : decode cX3_closePairs 59 = .ok (.istore 4, 2) := by decide +kernel
theorem dX3_closePairs_61 : decode cX3_closePairs 61 = .ok (.iload_n 3, 1) := by decide +kernel
theorem dX3_closePairs_62 : decode cX3_closePairs 62 = .ok (.iload 6, 2) := by decide +kernel
theorem dX3_closePairs_64 : decode cX3_closePairs 64 = .ok (.iload 4, 2) := by decide +kernel
theorem dX3_closePairs_66 : decode cX3_closePairs 66 = .ok (.imul, 1) := by decide +kernel
theorem dX3_closePairs_67 : decode cX3_closePairs 67 = .ok (.iload 6, 2) := by decide +kernel
theorem dX3_closePairs_69 : decode cX3_closePairs 69 = .ok (.iload 6, 2) := by decide +kernel
theorem dX3_closePairs_71 : decode cX3_closePairs 71 = .ok (.iconst 1, 1) := by decide +kernel
theorem dX3_closePairs_72 : decode cX3_closePairs 72 = .ok (.isub, 1) := by decide +kernel
theorem dX3_closePairs_73 : decode cX3_closePairs 73 = .ok (.imul, 1) := by decide +kernel
theorem dX3_closePairs_74 : decode cX3_closePairs 74 = .ok (.iconst 2, 1) := by decide +kernel
theorem dX3_closePairs_75 : decode cX3_closePairs 75 = .ok (.idiv, 1) := by decide +kernel
theorem dX3_closePairs_76 : decode cX3_closePairs 76 = .ok (.iadd, 1) := by decide +kernel
theorem dX3_closePairs_77 : decode cX3_closePairs 77 = .ok (.iadd, 1) := by decide +kernel
theorem dX3_closePairs_78 : decode cX3_closePairs 78 = .ok (.istore_n 3, 1) := by decide +kernel
theorem dX3_closePairs_79 : decode cX3_closePairs 79 = .ok (.iload 4, 2) := by decide +kernel
theorem dX3_closePairs_81 : decode cX3_closePairs 81 = .ok (.iload 6, 2) := by decide +kernel
theorem dX3_closePairs_83 : decode cX3_closePairs 83 = .ok (.iadd, 1) := by decide +kernel
theorem dX3_closePairs_84 : decode cX3_closePairs 84 = .ok (.istore 4, 2) := by decide +kernel
theorem dX3_closePairs_86 : decode cX3_closePairs 86 = .ok (.iinc 5 1, 3) := by decide +kernel
theorem dX3_closePairs_89 : decode cX3_closePairs 89 = .ok (.goto (-81), 3) := by decide +kernel
theorem dX3_closePairs_92 : decode cX3_closePairs 92 = .ok (.iload_n 3, 1) := by decide +kernel
theorem dX3_closePairs_93 : decode cX3_closePairs 93 = .ok (.ireturn, 1) := by decide +kernel
theorem dX3_spansOutside_0 : decode cX3_spansOutside 0 = .ok (.iconst 0, 1) := by decide +kernel
theorem dX3_spansOutside_1 : decode cX3_spansOutside 1 = .ok (.istore 5, 2) := by decide +kernel
theorem dX3_spansOutside_3 : decode cX3_spansOutside 3 = .ok (.iconst 0, 1) := by decide +kernel
theorem dX3_spansOutside_4 : decode cX3_spansOutside 4 = .ok (.istore 6, 2) := by decide +kernel
theorem dX3_spansOutside_6 : decode cX3_spansOutside 6 = .ok (.iconst 0, 1) := by decide +kernel
theorem dX3_spansOutside_7 : decode cX3_spansOutside 7 = .ok (.istore 7, 2) := by decide +kernel
theorem dX3_spansOutside_9 : decode cX3_spansOutside 9 = .ok (.iload 7, 2) := by decide +kernel
theorem dX3_spansOutside_11 : decode cX3_spansOutside 11 = .ok (.aload_n 0, 1) := by decide +kernel
theorem dX3_spansOutside_12 : decode cX3_spansOutside 12 = .ok (.getfield 33, 3) := by decide +kernel
theorem dX3_spansOutside_15 : decode cX3_spansOutside 15 = .ok (.if_icmp .ge 83, 3) := by decide +kernel
theorem dX3_spansOutside_18 : decode cX3_spansOutside 18 = .ok (.iload 7, 2) := by decide +kernel
theorem dX3_spansOutside_20 : decode cX3_spansOutside 20 = .ok (.bipush 14, 2) := by decide +kernel
theorem dX3_spansOutside_22 : decode cX3_spansOutside 22 = .ok (.if_icmp .ge 76, 3) := by decide +kernel
theorem dX3_spansOutside_25 : decode cX3_spansOutside 25 = .ok (.iload 6, 2) := by decide +kernel
theorem dX3_spansOutside_27 : decode cX3_spansOutside 27 = .ok (.aload_n 0, 1) := by decide +kernel
theorem dX3_spansOutside_28 : decode cX3_spansOutside 28 = .ok (.getfield 16, 3) := by decide +kernel
theorem dX3_spansOutside_31 : decode cX3_spansOutside 31 = .ok (.iload_n 1, 1) := by decide +kernel
theorem dX3_spansOutside_32 : decode cX3_spansOutside 32 = .ok (.aaload, 1) := by decide +kernel
theorem dX3_spansOutside_33 : decode cX3_spansOutside 33 = .ok (.iload 7, 2) := by decide +kernel
theorem dX3_spansOutside_35 : decode cX3_spansOutside 35 = .ok (.iaload, 1) := by decide +kernel
theorem dX3_spansOutside_36 : decode cX3_spansOutside 36 = .ok (.iadd, 1) := by decide +kernel
theorem dX3_spansOutside_37 : decode cX3_spansOutside 37 = .ok (.istore 6, 2) := by decide +kernel
theorem dX3_spansOutside_39 : decode cX3_spansOutside 39 = .ok (.iload 7, 2) := by decide +kernel
theorem dX3_spansOutside_41 : decode cX3_spansOutside 41 = .ok (.iload 4, 2) := by decide +kernel
theorem dX3_spansOutside_43 : decode cX3_spansOutside 43 = .ok (.if_icmp .lt 25, 3) := by decide +kernel
theorem dX3_spansOutside_46 : decode cX3_spansOutside 46 = .ok (.iload 4, 2) := by decide +kernel
theorem dX3_spansOutside_48 : decode cX3_spansOutside 48 = .ok (.ifCond .lt 20, 3) := by decide +kernel
theorem dX3_spansOutside_51 : decode cX3_spansOutside 51 = .ok (.iload 6, 2) := by decide +kernel
theorem dX3_spansOutside_53 : decode cX3_spansOutside 53 = .ok (.aload_n 0, 1) := by decide +kernel
theorem dX3_spansOutside_54 : decode cX3_spansOutside 54 = .ok (.getfield 16, 3) := by decide +kernel
theorem dX3_spansOutside_57 : decode cX3_spansOutside 57 = .ok (.iload_n 1, 1) := by decide +kernel
theorem dX3_spansOutside_58 : decode cX3_spansOutside 58 = .ok (.aaload, 1) := by decide +kernel
theorem dX3_spansOutside_59 : decode cX3_spansOutside 59 = .ok (.iload 7, 2) := by decide +kernel
theorem dX3_spansOutside_61 : decode cX3_spansOutside 61 = .ok (.iload 4, 2) := by decide +kernel
theorem dX3_spansOutside_63 : decode cX3_spansOutside 63 = .ok (.isub, 1) := by decide +kernel
theorem dX3_spansOutside_64 : decode cX3_spansOutside 64 = .ok (.iaload, 1) := by decide +kernel
theorem dX3_spansOutside_65 : decode cX3_spansOutside 65 = .ok (.isub, 1) := by decide +kernel
theorem dX3_spansOutside_66 : decode cX3_spansOutside 66 = .ok (.istore 6, 2) := by decide +kernel
theorem dX3_spansOutside_68 : decode cX3_spansOutside 68 = .ok (.iload 7, 2) := by decide +kernel
theorem dX3_spansOutside_70 : decode cX3_spansOutside 70 = .ok (.iload 4, 2) := by decide +kernel
theorem dX3_spansOutside_72 : decode cX3_spansOutside 72 = .ok (.iconst 1, 1) := by decide +kernel
theorem dX3_spansOutside_73 : decode cX3_spansOutside 73 = .ok (.isub, 1) := by decide +kernel
theorem dX3_spansOutside_74 : decode cX3_spansOutside 74 = .ok (.if_icmp .lt 18, 3) := by decide +kernel
theorem dX3_spansOutside_77 : decode cX3_spansOutside 77 = .ok (.iload 6, 2) := by decide +kernel
theorem dX3_spansOutside_79 : decode cX3_spansOutside 79 = .ok (.iload_n 2, 1) := by decide +kernel
theorem dX3_spansOutside_80 : decode cX3_spansOutside 80 = .ok (.if_icmp .lt 9, 3) := by decide +kernel
theorem dX3_spansOutside_83 : decode cX3_spansOutside 83 = .ok (.iload 6, 2) := by decide +kernel
theorem dX3_spansOutside_85 : decode cX3_spansOutside 85 = .ok (.iload_n 3, 1) := by decide +kernel
theorem dX3_spansOutside_86 : decode cX3_spansOutside 86 = .ok (.if_icmp .le 6, 3) := by decide +kernel
theorem dX3_spansOutside_89 : decode cX3_spansOutside 89 = .ok (.iinc 5 1, 3) := by decide +kernel
theorem dX3_spansOutside_92 : decode cX3_spansOutside 92 = .ok (.iinc 7 1, 3) := by decide +kernel
theorem dX3_spansOutside_95 : decode cX3_spansOutside 95 = .ok (.goto (-86), 3) := by decide +kernel
theorem dX3_spansOutside_98 : decode cX3_spansOutside 98 = .ok (.iload 5, 2) := by decide +kernel
theorem dX3_spansOutside_100 : decode cX3_spansOutside 100 = .ok (.ireturn, 1) := by decide +kernel
theorem dX3_daysOutside_0 : decode cX3_daysOutside 0 = .ok (.iconst 0, 1) := by decide +kernel
theorem dX3_daysOutside_1 : decode cX3_daysOutside 1 = .ok (.istore_n 3, 1) := by decide +kernel
theorem dX3_daysOutside_2 : decode cX3_daysOutside 2 = .ok (.iconst 0, 1) := by decide +kernel
theorem dX3_daysOutside_3 : decode cX3_daysOutside 3 = .ok (.istore 4, 2) := by decide +kernel
theorem dX3_daysOutside_5 : decode cX3_daysOutside 5 = .ok (.iload 4, 2) := by decide +kernel
theorem dX3_daysOutside_7 : decode cX3_daysOutside 7 = .ok (.aload_n 0, 1) := by decide +kernel
theorem dX3_daysOutside_8 : decode cX3_daysOutside 8 = .ok (.getfield 33, 3) := by decide +kernel
theorem dX3_daysOutside_11 : decode cX3_daysOutside 11 = .ok (.if_icmp .ge 41, 3) := by decide +kernel
theorem dX3_daysOutside_14 : decode cX3_daysOutside 14 = .ok (.iload 4, 2) := by decide +kernel
theorem dX3_daysOutside_16 : decode cX3_daysOutside 16 = .ok (.bipush 14, 2) := by decide +kernel
theorem dX3_daysOutside_18 : decode cX3_daysOutside 18 = .ok (.if_icmp .ge 34, 3) := by decide +kernel
theorem dX3_daysOutside_21 : decode cX3_daysOutside 21 = .ok (.aload_n 0, 1) := by decide +kernel
theorem dX3_daysOutside_22 : decode cX3_daysOutside 22 = .ok (.getfield 19, 3) := by decide +kernel
theorem dX3_daysOutside_25 : decode cX3_daysOutside 25 = .ok (.iload 4, 2) := by decide +kernel
theorem dX3_daysOutside_27 : decode cX3_daysOutside 27 = .ok (.iaload, 1) := by decide +kernel
theorem dX3_daysOutside_28 : decode cX3_daysOutside 28 = .ok (.iload_n 1, 1) := by decide +kernel
theorem dX3_daysOutside_29 : decode cX3_daysOutside 29 = .ok (.if_icmp .lt 14, 3) := by decide +kernel
theorem dX3_daysOutside_32 : decode cX3_daysOutside 32 = .ok (.aload_n 0, 1) := by decide +kernel
theorem dX3_daysOutside_33 : decode cX3_daysOutside 33 = .ok (.getfield 19, 3) := by decide +kernel
theorem dX3_daysOutside_36 : decode cX3_daysOutside 36 = .ok (.iload 4, 2) := by decide +kernel
theorem dX3_daysOutside_38 : decode cX3_daysOutside 38 = .ok (.iaload, 1) := by decide +kernel
theorem dX3_daysOutside_39 : decode cX3_daysOutside 39 = .ok (.iload_n 2, 1) := by decide +kernel
theorem dX3_daysOutside_40 : decode cX3_daysOutside 40 = .ok (.if_icmp .le 6, 3) := by decide +kernel
theorem dX3_daysOutside_43 : decode cX3_daysOutside 43 = .ok (.iinc 3 1, 3) := by decide +kernel
theorem dX3_daysOutside_46 : decode cX3_daysOutside 46 = .ok (.iinc 4 1, 3) := by decide +kernel
theorem dX3_daysOutside_49 : decode cX3_daysOutside 49 = .ok (.goto (-44), 3) := by decide +kernel
theorem dX3_daysOutside_52 : decode cX3_daysOutside 52 = .ok (.iload_n 3, 1) := by decide +kernel
theorem dX3_daysOutside_53 : decode cX3_daysOutside 53 = .ok (.ireturn, 1) := by decide +kernel
theorem dX4_init_0 : decode cX4_init 0 = .ok (.aload_n 0, 1) := by decide +kernel
theorem dX4_init_1 : decode cX4_init 1 = .ok (.invokespecial 3, 3) := by decide +kernel
theorem dX4_init_4 : decode cX4_init 4 = .ok (.aload_n 0, 1) := by decide +kernel
theorem dX4_init_5 : decode cX4_init 5 = .ok (.bipush 16, 2) := by decide +kernel
theorem dX4_init_7 : decode cX4_init 7 = .ok (.newarray .long, 2) := by decide +kernel
theorem dX4_init_9 : decode cX4_init 9 = .ok (.putfield 9, 3) := by decide +kernel
theorem dX4_init_12 : decode cX4_init 12 = .ok (.aload_n 0, 1) := by decide +kernel
theorem dX4_init_13 : decode cX4_init 13 = .ok (.iload_n 1, 1) := by decide +kernel
theorem dX4_init_14 : decode cX4_init 14 = .ok (.putfield 15, 3) := by decide +kernel
theorem dX4_init_17 : decode cX4_init 17 = .ok (.return_, 1) := by decide +kernel
theorem dX4_has_0 : decode cX4_has 0 = .ok (.iload_n 1, 1) := by decide +kernel
theorem dX4_has_1 : decode cX4_has 1 = .ok (.ifCond .lt 21, 3) := by decide +kernel
theorem dX4_has_4 : decode cX4_has 4 = .ok (.iload_n 1, 1) := by decide +kernel
theorem dX4_has_5 : decode cX4_has 5 = .ok (.aload_n 0, 1) := by decide +kernel
theorem dX4_has_6 : decode cX4_has 6 = .ok (.getfield 19, 3) := by decide +kernel
theorem dX4_has_9 : decode cX4_has 9 = .ok (.if_icmp .ge 13, 3) := by decide +kernel
theorem dX4_has_12 : decode cX4_has 12 = .ok (.iload_n 1, 1) := by decide +kernel
theorem dX4_has_13 : decode cX4_has 13 = .ok (.bipush 16, 2) := by decide +kernel
theorem dX4_has_15 : decode cX4_has 15 = .ok (.if_icmp .ge 7, 3) := by decide +kernel
theorem dX4_has_18 : decode cX4_has 18 = .ok (.iconst 1, 1) := by decide +kernel
theorem dX4_has_19 : decode cX4_has 19 = .ok (.goto 4, 3) := by decide +kernel
theorem dX4_has_22 : decode cX4_has 22 = .ok (.iconst 0, 1) := by decide +kernel
theorem dX4_has_23 : decode cX4_has 23 = .ok (.ireturn, 1) := by decide +kernel
theorem dX4_isFull_0 : decode cX4_isFull 0 = .ok (.aload_n 0, 1) := by decide +kernel
theorem dX4_isFull_1 : decode cX4_isFull 1 = .ok (.getfield 19, 3) := by decide +kernel
theorem dX4_isFull_4 : decode cX4_isFull 4 = .ok (.aload_n 0, 1) := by decide +kernel
theorem dX4_isFull_5 : decode cX4_isFull 5 = .ok (.getfield 15, 3) := by decide +kernel
theorem dX4_isFull_8 : decode cX4_isFull 8 = .ok (.if_icmp .lt 7, 3) := by decide +kernel
theorem dX4_isFull_11 : decode cX4_isFull 11 = .ok (.iconst 1, 1) := by decide +kernel
theorem dX4_isFull_12 : decode cX4_isFull 12 = .ok (.goto 4, 3) := by decide +kernel
theorem dX4_isFull_15 : decode cX4_isFull 15 = .ok (.iconst 0, 1) := by decide +kernel
theorem dX4_isFull_16 : decode cX4_isFull 16 = .ok (.ireturn, 1) := by decide +kernel
theorem dX4_indexOf_0 : decode cX4_indexOf 0 = .ok (.iconst 0, 1) := by decide +kernel
theorem dX4_indexOf_1 : decode cX4_indexOf 1 = .ok (.istore_n 3, 1) := by decide +kernel
theorem dX4_indexOf_2 : decode cX4_indexOf 2 = .ok (.iload_n 3, 1) := by decide +kernel
theorem dX4_indexOf_3 : decode cX4_indexOf 3 = .ok (.aload_n 0, 1) := by decide +kernel
theorem dX4_indexOf_4 : decode cX4_indexOf 4 = .ok (.getfield 19, 3) := by decide +kernel
theorem dX4_indexOf_7 : decode cX4_indexOf 7 = .ok (.if_icmp .ge 28, 3) := by decide +kernel
theorem dX4_indexOf_10 : decode cX4_indexOf 10 = .ok (.iload_n 3, 1) := by decide +kernel
theorem dX4_indexOf_11 : decode cX4_indexOf 11 = .ok (.bipush 16, 2) := by decide +kernel
theorem dX4_indexOf_13 : decode cX4_indexOf 13 = .ok (.if_icmp .ge 22, 3) := by decide +kernel
theorem dX4_indexOf_16 : decode cX4_indexOf 16 = .ok (.aload_n 0, 1) := by decide +kernel
theorem dX4_indexOf_17 : decode cX4_indexOf 17 = .ok (.getfield 9, 3) := by decide +kernel
theorem dX4_indexOf_20 : decode cX4_indexOf 20 = .ok (.iload_n 3, 1) := by decide +kernel
theorem dX4_indexOf_21 : decode cX4_indexOf 21 = .ok (.laload, 1) := by decide +kernel
theorem dX4_indexOf_22 : decode cX4_indexOf 22 = .ok (.lload_n 1, 1) := by decide +kernel
theorem dX4_indexOf_23 : decode cX4_indexOf 23 = .ok (.lcmp, 1) := by decide +kernel
theorem dX4_indexOf_24 : decode cX4_indexOf 24 = .ok (.ifCond .ne 5, 3) := by decide +kernel
theorem dX4_indexOf_27 : decode cX4_indexOf 27 = .ok (.iload_n 3, 1) := by decide +kernel
theorem dX4_indexOf_28 : decode cX4_indexOf 28 = .ok (.ireturn, 1) := by decide +kernel
theorem dX4_indexOf_29 : decode cX4_indexOf 29 = .ok (.iinc 3 1, 3) := by decide +kernel
theorem dX4_indexOf_32 : decode cX4_indexOf 32 = .ok (.goto (-30), 3) := by decide +kernel
theorem dX4_indexOf_35 : decode cX4_indexOf 35 = .ok (.iconst (-1), 1) := by decide +kernel
theorem dX4_indexOf_36 : decode cX4_indexOf 36 = .ok (.ireturn, 1) := by decide +kernel
theorem dX4_add_0 : decode cX4_add 0 = .ok (.aload_n 0, 1) := by decide +kernel
theorem dX4_add_1 : decode cX4_add 1 = .ok (.getfield 19, 3) := by decide +kernel
theorem dX4_add_4 : decode cX4_add 4 = .ok (.ifCond .lt 32, 3) := by decide +kernel
theorem dX4_add_7 : decode cX4_add 7 = .ok (.aload_n 0, 1) := by decide +kernel
theorem dX4_add_8 : decode cX4_add 8 = .ok (.getfield 19, 3) := by decide +kernel
theorem dX4_add_11 : decode cX4_add 11 = .ok (.bipush 16, 2) := by decide +kernel
theorem dX4_add_13 : decode cX4_add 13 = .ok (.if_icmp .ge 23, 3) := by decide +kernel
theorem dX4_add_16 : decode cX4_add 16 = .ok (.aload_n 0, 1) := by decide +kernel
theorem dX4_add_17 : decode cX4_add 17 = .ok (.getfield 9, 3) := by decide +kernel
theorem dX4_add_20 : decode cX4_add 20 = .ok (.aload_n 0, 1) := by decide +kernel
theorem dX4_add_21 : decode cX4_add 21 = .ok (.getfield 19, 3) := by decide +kernel
theorem dX4_add_24 : decode cX4_add 24 = .ok (.lload_n 1, 1) := by decide +kernel
theorem dX4_add_25 : decode cX4_add 25 = .ok (.lastore, 1) := by decide +kernel
theorem dX4_add_26 : decode cX4_add 26 = .ok (.aload_n 0, 1) := by decide +kernel
theorem dX4_add_27 : decode cX4_add 27 = .ok (.dup, 1) := by decide +kernel
theorem dX4_add_28 : decode cX4_add 28 = .ok (.getfield 19, 3) := by decide +kernel
theorem dX4_add_31 : decode cX4_add 31 = .ok (.iconst 1, 1) := by decide +kernel
theorem dX4_add_32 : decode cX4_add 32 = .ok (.iadd, 1) := by decide +kernel
theorem dX4_add_33 : decode cX4_add 33 = .ok (.putfield 19, 3) := by decide +kernel
theorem dX4_add_36 : decode cX4_add 36 = .ok (.return_, 1) := by decide +kernel
theorem dX5_init_0 : decode cX5_init 0 = .ok (.aload_n 0, 1) := by decide +kernel
theorem dX5_init_1 : decode cX5_init 1 = .ok (.invokespecial 3, 3) := by decide +kernel
theorem dX5_init_4 : decode cX5_init 4 = .ok (.aload_n 0, 1) := by decide +kernel
theorem dX5_init_5 : decode cX5_init 5 = .ok (.aload_n 1, 1) := by decide +kernel
theorem dX5_init_6 : decode cX5_init 6 = .ok (.putfield 9, 3) := by decide +kernel
theorem dX5_init_9 : decode cX5_init 9 = .ok (.aload_n 0, 1) := by decide +kernel
theorem dX5_init_10 : decode cX5_init 10 = .ok (.aload_n 2, 1) := by decide +kernel
theorem dX5_init_11 : decode cX5_init 11 = .ok (.putfield 15, 3) := by decide +kernel
theorem dX5_init_14 : decode cX5_init 14 = .ok (.return_, 1) := by decide +kernel
theorem dX5_fillMenu_0 : decode cX5_fillMenu 0 = .ok (.aload_n 0, 1) := by decide +kernel
theorem dX5_fillMenu_1 : decode cX5_fillMenu 1 = .ok (.getfield 15, 3) := by decide +kernel
theorem dX5_fillMenu_4 : decode cX5_fillMenu 4 = .ok (.iload_n 1, 1) := by decide +kernel
theorem dX5_fillMenu_5 : decode cX5_fillMenu 5 = .ok (.invokevirtual 19, 3) := by decide +kernel
theorem dX5_fillMenu_8 : decode cX5_fillMenu 8 = .ok (.iconst 0, 1) := by decide +kernel
theorem dX5_fillMenu_9 : decode cX5_fillMenu 9 = .ok (.istore_n 2, 1) := by decide +kernel
theorem dX5_fillMenu_10 : decode cX5_fillMenu 10 = .ok (.iload_n 2, 1) := by decide +kernel
theorem dX5_fillMenu_11 : decode cX5_fillMenu 11 = .ok (.aload_n 0, 1) := by decide +kernel
theorem dX5_fillMenu_12 : decode cX5_fillMenu 12 = .ok (.getfield 15, 3) := by decide +kernel
theorem dX5_fillMenu_15 : decode cX5_fillMenu 15 = .ok (.getfield 25, 3) := by decide +kernel
theorem dX5_fillMenu_18 : decode cX5_fillMenu 18 = .ok (.if_icmp .ge 43, 3) := by decide +kernel
theorem dX5_fillMenu_21 : decode cX5_fillMenu 21 = .ok (.iconst 0, 1) := by decide +kernel
theorem dX5_fillMenu_22 : decode cX5_fillMenu 22 = .ok (.istore_n 3, 1) := by decide +kernel
theorem dX5_fillMenu_23 : decode cX5_fillMenu 23 = .ok (.iload_n 3, 1) := by decide +kernel
theorem dX5_fillMenu_24 : decode cX5_fillMenu 24 = .ok (.aload_n 0, 1) := by decide +kernel
theorem dX5_fillMenu_25 : decode cX5_fillMenu 25 = .ok (.getfield 9, 3) := by decide +kernel
theorem dX5_fillMenu_28 : decode cX5_fillMenu 28 = .ok (.getfield 29, 3) := by decide +kernel
theorem dX5_fillMenu_31 : decode cX5_fillMenu 31 = .ok (.if_icmp .ge 24, 3) := by decide +kernel
theorem dX5_fillMenu_34 : decode cX5_fillMenu 34 = .ok (.aload_n 0, 1) := by decide +kernel
theorem dX5_fillMenu_35 : decode cX5_fillMenu 35 = .ok (.getfield 15, 3) := by decide +kernel
theorem dX5_fillMenu_38 : decode cX5_fillMenu 38 = .ok (.iload_n 2, 1) := by decide +kernel
theorem dX5_fillMenu_39 : decode cX5_fillMenu 39 = .ok (.iload_n 3, 1) := by decide +kernel
theorem dX5_fillMenu_40 : decode cX5_fillMenu 40 = .ok (.aload_n 0, 1) := by decide +kernel
theorem dX5_fillMenu_41 : decode cX5_fillMenu 41 = .ok (.iload_n 2, 1) := by decide +kernel
theorem dX5_fillMenu_42 : decode cX5_fillMenu 42 = .ok (.iload_n 3, 1) := by decide +kernel
theorem dX5_fillMenu_43 : decode cX5_fillMenu 43 = .ok (.invokevirtual 34, 3) := by decide +kernel
theorem dX5_fillMenu_46 : decode cX5_fillMenu 46 = .ok (.invokevirtual 38, 3) := by decide +kernel
theorem dX5_fillMenu_49 : decode cX5_fillMenu 49 = .ok (.iinc 3 1, 3) := by decide +kernel
theorem dX5_fillMenu_52 : decode cX5_fillMenu 52 = .ok (.goto (-29), 3) := by decide +kernel
theorem dX5_fillMenu_55 : decode cX5_fillMenu 55 = .ok (.iinc 2 1, 3) := by decide +kernel
theorem dX5_fillMenu_58 : decode cX5_fillMenu 58 = .ok (.goto (-48), 3) := by decide +kernel
theorem dX5_fillMenu_61 : decode cX5_fillMenu 61 = .ok (.return_, 1) := by decide +kernel
theorem dX5_bestFor_0 : decode cX5_bestFor 0 = .ok (.aload_n 0, 1) := by decide +kernel
theorem dX5_bestFor_1 : decode cX5_bestFor 1 = .ok (.getfield 15, 3) := by decide +kernel
theorem dX5_bestFor_4 : decode cX5_bestFor 4 = .ok (.invokevirtual 42, 3) := by decide +kernel
theorem dX5_bestFor_7 : decode cX5_bestFor 7 = .ok (.istore_n 3, 1) := by decide +kernel
theorem dX5_bestFor_8 : decode cX5_bestFor 8 = .ok (.iconst (-1), 1) := by decide +kernel
theorem dX5_bestFor_9 : decode cX5_bestFor 9 = .ok (.istore 4, 2) := by decide +kernel
theorem dX5_bestFor_11 : decode cX5_bestFor 11 = .ok (.iconst 0, 1) := by decide +kernel
theorem dX5_bestFor_12 : decode cX5_bestFor 12 = .ok (.istore 5, 2) := by decide +kernel
theorem dX5_bestFor_14 : decode cX5_bestFor 14 = .ok (.iload 5, 2) := by decide +kernel
theorem dX5_bestFor_16 : decode cX5_bestFor 16 = .ok (.aload_n 0, 1) := by decide +kernel
theorem dX5_bestFor_17 : decode cX5_bestFor 17 = .ok (.getfield 9, 3) := by decide +kernel
theorem dX5_bestFor_20 : decode cX5_bestFor 20 = .ok (.getfield 46, 3) := by decide +kernel
theorem dX5_bestFor_23 : decode cX5_bestFor 23 = .ok (.getfield 50, 3) := by decide +kernel
theorem dX5_bestFor_26 : decode cX5_bestFor 26 = .ok (.if_icmp .ge 94, 3) := by decide +kernel
theorem dX5_bestFor_29 : decode cX5_bestFor 29 = .ok (.iload 5, 2) := by decide +kernel
theorem dX5_bestFor_31 : decode cX5_bestFor 31 = .ok (.bipush 16, 2) := by decide +kernel
theorem dX5_bestFor_33 : decode cX5_bestFor 33 = .ok (.if_icmp .ge 87, 3) := by decide +kernel
theorem dX5_bestFor_36 : decode cX5_bestFor 36 = .ok (.aload_n 0, 1) := by decide +kernel
theorem dX5_bestFor_37 : decode cX5_bestFor 37 = .ok (.getfield 9, 3) := by decide +kernel
theorem dX5_bestFor_40 : decode cX5_bestFor 40 = .ok (.iload_n 2, 1) := by decide +kernel
theorem dX5_bestFor_41 : decode cX5_bestFor 41 = .ok (.iload 5, 2) := by decide +kernel
theorem dX5_bestFor_43 : decode cX5_bestFor 43 = .ok (.invokevirtual 55, 3) := by decide +kernel
theorem dX5_bestFor_46 : decode cX5_bestFor 46 = .ok (.ifCond .eq 68, 3) := by decide +kernel
theorem dX5_bestFor_49 : decode cX5_bestFor 49 = .ok (.iload 4, 2) := by decide +kernel
theorem dX5_bestFor_51 : decode cX5_bestFor 51 = .ok (.iconst (-1), 1) := by decide +kernel
theorem dX5_bestFor_52 : decode cX5_bestFor 52 = .ok (.if_icmp .eq 26, 3) := by decide +kernel
theorem dX5_bestFor_55 : decode cX5_bestFor 55 = .ok (.aload_n 0, 1) := by decide +kernel
theorem dX5_bestFor_56 : decode cX5_bestFor 56 = .ok (.getfield 15, 3) := by decide +kernel
theorem dX5_bestFor_59 : decode cX5_bestFor 59 = .ok (.getfield 59, 3) := by decide +kernel
theorem dX5_bestFor_62 : decode cX5_bestFor 62 = .ok (.iload 5, 2) := by decide +kernel
theorem dX5_bestFor_64 : decode cX5_bestFor 64 = .ok (.iaload, 1) := by decide +kernel
theorem dX5_bestFor_65 : decode cX5_bestFor 65 = .ok (.aload_n 0, 1) := by decide +kernel
theorem dX5_bestFor_66 : decode cX5_bestFor 66 = .ok (.getfield 15, 3) := by decide +kernel
theorem dX5_bestFor_69 : decode cX5_bestFor 69 = .ok (.getfield 59, 3) := by decide +kernel
theorem dX5_bestFor_72 : decode cX5_bestFor 72 = .ok (.iload 4, 2) := by decide +kernel
theorem dX5_bestFor_74 : decode cX5_bestFor 74 = .ok (.iaload, 1) := by decide +kernel
theorem dX5_bestFor_75 : decode cX5_bestFor 75 = .ok (.if_icmp .ge 39, 3) := by decide +kernel
theorem dX5_bestFor_78 : decode cX5_bestFor 78 = .ok (.aload_n 0, 1) := by decide +kernel
theorem dX5_bestFor_79 : decode cX5_bestFor 79 = .ok (.getfield 15, 3) := by decide +kernel
theorem dX5_bestFor_82 : decode cX5_bestFor 82 = .ok (.iload_n 1, 1) := by decide +kernel
theorem dX5_bestFor_83 : decode cX5_bestFor 83 = .ok (.iload_n 2, 1) := by decide +kernel
theorem dX5_bestFor_84 : decode cX5_bestFor 84 = .ok (.iload 5, 2) := by decide +kernel
theorem dX5_bestFor_86 : decode cX5_bestFor 86 = .ok (.invokevirtual 38, 3) := by decide +kernel
theorem dX5_bestFor_89 : decode cX5_bestFor 89 = .ok (.aload_n 0, 1) := by decide +kernel
theorem dX5_bestFor_90 : decode cX5_bestFor 90 = .ok (.getfield 15, 3) := by decide +kernel
theorem dX5_bestFor_93 : decode cX5_bestFor 93 = .ok (.invokevirtual 42, 3) := by decide +kernel
theorem dX5_bestFor_96 : decode cX5_bestFor 96 = .ok (.iload_n 3, 1) := by decide +kernel
theorem dX5_bestFor_97 : decode cX5_bestFor 97 = .ok (.if_icmp .gt 7, 3) := by decide +kernel
theorem dX5_bestFor_100 : decode cX5_bestFor 100 = .ok (.iload 5, 2) := by decide +kernel
theorem dX5_bestFor_102 : decode cX5_bestFor 102 = .ok (.istore 4, 2) := by decide +kernel
theorem dX5_bestFor_104 : decode cX5_bestFor 104 = .ok (.aload_n 0, 1) := by decide +kernel
theorem dX5_bestFor_105 : decode cX5_bestFor 105 = .ok (.getfield 15, 3) := by decide +kernel
theorem dX5_bestFor_108 : decode cX5_bestFor 108 = .ok (.iload_n 1, 1) := by decide +kernel
theorem dX5_bestFor_109 : decode cX5_bestFor 109 = .ok (.iload_n 2, 1) := by decide +kernel
theorem dX5_bestFor_110 : decode cX5_bestFor 110 = .ok (.iconst (-1), 1) := by decide +kernel
theorem dX5_bestFor_111 : decode cX5_bestFor 111 = .ok (.invokevirtual 38, 3) := by decide +kernel
theorem dX5_bestFor_114 : decode cX5_bestFor 114 = .ok (.iinc 5 1, 3) := by decide +kernel
theorem dX5_bestFor_117 : decode cX5_bestFor 117 = .ok (.goto (-103), 3) := by decide +kernel
theorem dX5_bestFor_120 : decode cX5_bestFor 120 = .ok (.iload 4, 2) := by decide +kernel
theorem dX5_bestFor_122 : decode cX5_bestFor 122 = .ok (.ireturn, 1) := by decide +kernel
theorem dX5_changeBest_0 : decode cX5_changeBest 0 = .ok (.aload_n 0, 1) := by decide +kernel
theorem dX5_changeBest_1 : decode cX5_changeBest 1 = .ok (.getfield 15, 3) := by decide +kernel
theorem dX5_changeBest_4 : decode cX5_changeBest 4 = .ok (.invokevirtual 63, 3) := by decide +kernel
theorem dX5_changeBest_7 : decode cX5_changeBest 7 = .ok (.istore_n 1, 1) := by decide +kernel
theorem dX5_changeBest_8 : decode cX5_changeBest 8 = .ok (.iconst (-1), 1) := by decide +kernel
theorem dX5_changeBest_9 : decode cX5_changeBest 9 = .ok (.istore_n 2, 1) := by decide +kernel
theorem dX5_changeBest_10 : decode cX5_changeBest 10 = .ok (.iconst (-1), 1) := by decide +kernel
theorem dX5_changeBest_11 : decode cX5_changeBest 11 = .ok (.istore_n 3, 1) := by decide +kernel
theorem dX5_changeBest_12 : decode cX5_changeBest 12 = .ok (.iconst (-1), 1) := by decide +kernel
theorem dX5_changeBest_13 : decode cX5_changeBest 13 = .ok (.istore 4, 2) := by decide +kernel
theorem dX5_changeBest_15 : decode cX5_changeBest 15 = .ok (.iconst 0, 1) := by decide +kernel
theorem dX5_changeBest_16 : decode cX5_changeBest 16 = .ok (.istore 5, 2) := by decide +kernel
theorem dX5_changeBest_18 : decode cX5_changeBest 18 = .ok (.iload 5, 2) := by decide +kernel
theorem dX5_changeBest_20 : decode cX5_changeBest 20 = .ok (.aload_n 0, 1) := by decide +kernel
theorem dX5_changeBest_21 : decode cX5_changeBest 21 = .ok (.getfield 15, 3) := by decide +kernel
theorem dX5_changeBest_24 : decode cX5_changeBest 24 = .ok (.getfield 25, 3) := by decide +kernel
theorem dX5_changeBest_27 : decode cX5_changeBest 27 = .ok (.if_icmp .ge 104, 3) := by decide +kernel
theorem dX5_changeBest_30 : decode cX5_changeBest 30 = .ok (.iconst 0, 1) := by decide +kernel
theorem dX5_changeBest_31 : decode cX5_changeBest 31 = .ok (.istore 6, 2) := by decide +kernel
theorem dX5_changeBest_33 : decode cX5_changeBest 33 = .ok (.iload 6, 2) := by decide +kernel
theorem dX5_changeBest_35 : decode cX5_changeBest 35 = .ok (.aload_n 0, 1) := by decide +kernel
theorem dX5_changeBest_36 : decode cX5_changeBest 36 = .ok (.getfield 9, 3) := by decide +kernel
theorem dX5_changeBest_39 : decode cX5_changeBest 39 = .ok (.getfield 29, 3) := by decide +kernel
theorem dX5_changeBest_42 : decode cX5_changeBest 42 = .ok (.if_icmp .ge 83, 3) := by decide +kernel
theorem dX5_changeBest_45 : decode cX5_changeBest 45 = .ok (.aload_n 0, 1) := by decide +kernel
theorem dX5_changeBest_46 : decode cX5_changeBest 46 = .ok (.getfield 15, 3) := by decide +kernel
theorem dX5_changeBest_49 : decode cX5_changeBest 49 = .ok (.iload 5, 2) := by decide +kernel
theorem dX5_changeBest_51 : decode cX5_changeBest 51 = .ok (.iload 6, 2) := by decide +kernel
theorem dX5_changeBest_53 : decode cX5_changeBest 53 = .ok (.invokevirtual 66, 3) := by decide +kernel
theorem dX5_changeBest_56 : decode cX5_changeBest 56 = .ok (.istore 7, 2) := by decide +kernel
theorem dX5_changeBest_58 : decode cX5_changeBest 58 = .ok (.aload_n 0, 1) := by decide +kernel
theorem dX5_changeBest_59 : decode cX5_changeBest 59 = .ok (.iload 5, 2) := by decide +kernel
theorem dX5_changeBest_61 : decode cX5_changeBest 61 = .ok (.iload 6, 2) := by decide +kernel
theorem dX5_changeBest_63 : decode cX5_changeBest 63 = .ok (.iload_n 1, 1) := by decide +kernel
theorem dX5_changeBest_64 : decode cX5_changeBest 64 = .ok (.invokevirtual 69, 3) := by decide +kernel
theorem dX5_changeBest_67 : decode cX5_changeBest 67 = .ok (.istore 8, 2) := by decide +kernel
theorem dX5_changeBest_69 : decode cX5_changeBest 69 = .ok (.iload 8, 2) := by decide +kernel
theorem dX5_changeBest_71 : decode cX5_changeBest 71 = .ok (.iconst (-1), 1) := by decide +kernel
theorem dX5_changeBest_72 : decode cX5_changeBest 72 = .ok (.if_icmp .eq 34, 3) := by decide +kernel
theorem dX5_changeBest_75 : decode cX5_changeBest 75 = .ok (.aload_n 0, 1) := by decide +kernel
theorem dX5_changeBest_76 : decode cX5_changeBest 76 = .ok (.getfield 15, 3) := by decide +kernel
theorem dX5_changeBest_79 : decode cX5_changeBest 79 = .ok (.iload 5, 2) := by decide +kernel
theorem dX5_changeBest_81 : decode cX5_changeBest 81 = .ok (.iload 6, 2) := by decide +kernel
theorem dX5_changeBest_83 : decode cX5_changeBest 83 = .ok (.iload 8, 2) := by decide +kernel
theorem dX5_changeBest_85 : decode cX5_changeBest 85 = .ok (.invokevirtual 38, 3) := by decide +kernel
theorem dX5_changeBest_88 : decode cX5_changeBest 88 = .ok (.aload_n 0, 1) := by decide +kernel
theorem dX5_changeBest_89 : decode cX5_changeBest 89 = .ok (.getfield 15, 3) := by decide +kernel
theorem dX5_changeBest_92 : decode cX5_changeBest 92 = .ok (.invokevirtual 63, 3) := by decide +kernel
theorem dX5_changeBest_95 : decode cX5_changeBest 95 = .ok (.istore_n 1, 1) := by decide +kernel
theorem dX5_changeBest_96 : decode cX5_changeBest 96 = .ok (.iload 5, 2) := by decide +kernel
theorem dX5_changeBest_98 : decode cX5_changeBest 98 = .ok (.istore_n 2, 1) := by decide +kernel
theorem dX5_changeBest_99 : decode cX5_changeBest 99 = .ok (.iload 6, 2) := by decide +kernel
theorem dX5_changeBest_101 : decode cX5_changeBest 101 = .ok (.istore_n 3, 1) := by decide +kernel
theorem dX5_changeBest_102 : decode cX5_changeBest 102 = .ok (.iload 8, 2) := by decide +kernel
theorem dX5_changeBest_104 : decode cX5_changeBest 104 = .ok (.istore 4, 2) := by decide +kernel
theorem dX5_changeBest_106 : decode cX5_changeBest 106 = .ok (.aload_n 0, 1) := by decide +kernel
theorem dX5_changeBest_107 : decode cX5_changeBest 107 = .ok (.getfield 15, 3) := by decide +kernel
theorem dX5_changeBest_110 : decode cX5_changeBest 110 = .ok (.iload 5, 2) := by decide +kernel
theorem dX5_changeBest_112 : decode cX5_changeBest 112 = .ok (.iload 6, 2) := by decide +kernel
theorem dX5_changeBest_114 : decode cX5_changeBest 114 = .ok (.iload 7, 2) := by decide +kernel
theorem dX5_changeBest_116 : decode cX5_changeBest 116 = .ok (.invokevirtual 38, 3) := by decide +kernel
theorem dX5_changeBest_119 : decode cX5_changeBest 119 = .ok (.iinc 6 1, 3) := by decide +kernel
theorem dX5_changeBest_122 : decode cX5_changeBest 122 = .ok (.goto (-89), 3) := by decide +kernel
theorem dX5_changeBest_125 : decode cX5_changeBest 125 = .ok (.iinc 5 1, 3) := by decide +kernel
theorem dX5_changeBest_128 : decode cX5_changeBest 128 = .ok (.goto (-110), 3) := by decide +kernel
theorem dX5_changeBest_131 : decode cX5_changeBest 131 = .ok (.aload_n 0, 1) := by decide +kernel
theorem dX5_changeBest_132 : decode cX5_changeBest 132 = .ok (.getfield 15, 3) := by decide +kernel
theorem dX5_changeBest_135 : decode cX5_changeBest 135 = .ok (.iload_n 2, 1) := by decide +kernel
theorem dX5_changeBest_136 : decode cX5_changeBest 136 = .ok (.iload_n 3, 1) := by decide +kernel
theorem dX5_changeBest_137 : decode cX5_changeBest 137 = .ok (.iload 4, 2) := by decide +kernel
theorem dX5_changeBest_139 : decode cX5_changeBest 139 = .ok (.invokevirtual 38, 3) := by decide +kernel
theorem dX5_changeBest_142 : decode cX5_changeBest 142 = .ok (.return_, 1) := by decide +kernel
theorem dX5_bestInstead_0 : decode cX5_bestInstead 0 = .ok (.iload_n 3, 1) := by decide +kernel
theorem dX5_bestInstead_1 : decode cX5_bestInstead 1 = .ok (.istore 4, 2) := by decide +kernel
theorem dX5_bestInstead_3 : decode cX5_bestInstead 3 = .ok (.iconst (-1), 1) := by decide +kernel
theorem dX5_bestInstead_4 : decode cX5_bestInstead 4 = .ok (.istore 5, 2) := by decide +kernel
theorem dX5_bestInstead_6 : decode cX5_bestInstead 6 = .ok (.iconst 0, 1) := by decide +kernel
theorem dX5_bestInstead_7 : decode cX5_bestInstead 7 = .ok (.istore 6, 2) := by decide +kernel
theorem dX5_bestInstead_9 : decode cX5_bestInstead 9 = .ok (.iload 6, 2) := by decide +kernel
theorem dX5_bestInstead_11 : decode cX5_bestInstead 11 = .ok (.aload_n 0, 1) := by decide +kernel
theorem dX5_bestInstead_12 : decode cX5_bestInstead 12 = .ok (.getfield 9, 3) := by decide +kernel
theorem dX5_bestInstead_15 : decode cX5_bestInstead 15 = .ok (.getfield 46, 3) := by decide +kernel
theorem dX5_bestInstead_18 : decode cX5_bestInstead 18 = .ok (.getfield 50, 3) := by decide +kernel
theorem dX5_bestInstead_21 : decode cX5_bestInstead 21 = .ok (.if_icmp .ge 58, 3) := by decide +kernel
theorem dX5_bestInstead_24 : decode cX5_bestInstead 24 = .ok (.aload_n 0, 1) := by decide +kernel
theorem dX5_bestInstead_25 : decode cX5_bestInstead 25 = .ok (.getfield 9, 3) := by decide +kernel
theorem dX5_bestInstead_28 : decode cX5_bestInstead 28 = .ok (.iload_n 2, 1) := by decide +kernel
theorem dX5_bestInstead_29 : decode cX5_bestInstead 29 = .ok (.iload 6, 2) := by decide +kernel
theorem dX5_bestInstead_31 : decode cX5_bestInstead 31 = .ok (.invokevirtual 55, 3) := by decide +kernel
theorem dX5_bestInstead_34 : decode cX5_bestInstead 34 = .ok (.ifCond .eq 39, 3) := by decide +kernel
theorem dX5_bestInstead_37 : decode cX5_bestInstead 37 = .ok (.aload_n 0, 1) := by decide +kernel
theorem dX5_bestInstead_38 : decode cX5_bestInstead 38 = .ok (.getfield 15, 3) := by decide +kernel
theorem dX5_bestInstead_41 : decode cX5_bestInstead 41 = .ok (.iload_n 1, 1) := by decide +kernel
theorem dX5_bestInstead_42 : decode cX5_bestInstead 42 = .ok (.iload_n 2, 1) := by decide +kernel
theorem dX5_bestInstead_43 : decode cX5_bestInstead 43 = .ok (.iload 6, 2) := by decide +kernel
theorem dX5_bestInstead_45 : decode cX5_bestInstead 45 = .ok (.invokevirtual 38, 3) := by decide +kernel
theorem dX5_bestInstead_48 : decode cX5_bestInstead 48 = .ok (.aload_n 0, 1) := by decide +kernel
theorem dX5_bestInstead_49 : decode cX5_bestInstead 49 = .ok (.getfield 15, 3) := by decide +kernel
theorem dX5_bestInstead_52 : decode cX5_bestInstead 52 = .ok (.invokevirtual 63, 3) := by decide +kernel
theorem dX5_bestInstead_55 : decode cX5_bestInstead 55 = .ok (.iload 4, 2) := by decide +kernel
theorem dX5_bestInstead_57 : decode cX5_bestInstead 57 = .ok (.if_icmp .ge 16, 3) := by decide +kernel
theorem dX5_bestInstead_60 : decode cX5_bestInstead 60 = .ok (.aload_n 0, 1) := by decide +kernel
theorem dX5_bestInstead_61 : decode cX5_bestInstead 61 = .ok (.getfield 15, 3) := by decide +kernel
theorem dX5_bestInstead_64 : decode cX5_bestInstead 64 = .ok (.invokevirtual 63, 3) := by decide +kernel
theorem dX5_bestInstead_67 : decode cX5_bestInstead 67 = .ok (.istore 4, 2) := by decide +kernel
theorem dX5_bestInstead_69 : decode cX5_bestInstead 69 = .ok (.iload 6, 2) := by decide +kernel
theorem dX5_bestInstead_71 : decode cX5_bestInstead 71 = .ok (.istore 5, 2) := by decide +kernel
theorem dX5_bestInstead_73 : decode cX5_bestInstead 73 = .ok (.iinc 6 1, 3) := by decide +kernel
theorem dX5_bestInstead_76 : decode cX5_bestInstead 76 = .ok (.goto (-67), 3) := by decide +kernel
theorem dX5_bestInstead_79 : decode cX5_bestInstead 79 = .ok (.iload 5, 2) := by decide +kernel
theorem dX5_bestInstead_81 : decode cX5_bestInstead 81 = .ok (.ireturn, 1) := by decide +kernel
theorem dX6_init_0 : decode cX6_init 0 = .ok (.aload_n 0, 1) := by decide +kernel
theorem dX6_init_1 : decode cX6_init 1 = .ok (.invokespecial 3, 3) := by decide +kernel
theorem dX6_init_4 : decode cX6_init 4 = .ok (.aload_n 0, 1) := by decide +kernel
theorem dX6_init_5 : decode cX6_init 5 = .ok (.new 9, 3) := by decide +kernel
theorem dX6_init_8 : decode cX6_init 8 = .ok (.dup, 1) := by decide +kernel
theorem dX6_init_9 : decode cX6_init 9 = .ok (.bipush 16, 2) := by decide +kernel
theorem dX6_init_11 : decode cX6_init 11 = .ok (.invokespecial 11, 3) := by decide +kernel
theorem dX6_init_14 : decode cX6_init 14 = .ok (.putfield 14, 3) := by decide +kernel
theorem dX6_init_17 : decode cX6_init 17 = .ok (.aload_n 0, 1) := by decide +kernel
theorem dX6_init_18 : decode cX6_init 18 = .ok (.new 9, 3) := by decide +kernel
theorem dX6_init_21 : decode cX6_init 21 = .ok (.dup, 1) := by decide +kernel
theorem dX6_init_22 : decode cX6_init 22 = .ok (.bipush 16, 2) := by decide +kernel
theorem dX6_init_24 : decode cX6_init 24 = .ok (.invokespecial 11, 3) := by decide +kernel
theorem dX6_init_27 : decode cX6_init 27 = .ok (.putfield 20, 3) := by decide +kernel
theorem dX6_init_30 : decode cX6_init 30 = .ok (.aload_n 0, 1) := by decide +kernel
theorem dX6_init_31 : decode cX6_init 31 = .ok (.new 9, 3) := by decide +kernel
theorem dX6_init_34 : decode cX6_init 34 = .ok (.dup, 1) := by decide +kernel
theorem dX6_init_35 : decode cX6_init 35 = .ok (.iconst 4, 1) := by decide +kernel
theorem dX6_init_36 : decode cX6_init 36 = .ok (.invokespecial 11, 3) := by decide +kernel
theorem dX6_init_39 : decode cX6_init 39 = .ok (.putfield 23, 3) := by decide +kernel
theorem dX6_init_42 : decode cX6_init 42 = .ok (.aload_n 0, 1) := by decide +kernel
theorem dX6_init_43 : decode cX6_init 43 = .ok (.new 9, 3) := by decide +kernel
theorem dX6_init_46 : decode cX6_init 46 = .ok (.dup, 1) := by decide +kernel
theorem dX6_init_47 : decode cX6_init 47 = .ok (.bipush 16, 2) := by decide +kernel
theorem dX6_init_49 : decode cX6_init 49 = .ok (.invokespecial 11, 3) := by decide +kernel
theorem dX6_init_52 : decode cX6_init 52 = .ok (.putfield 26, 3) := by decide +kernel
theorem dX6_init_55 : decode cX6_init 55 = .ok (.aload_n 0, 1) := by decide +kernel
theorem dX6_init_56 : decode cX6_init 56 = .ok (.new 29, 3) := by decide +kernel
theorem dX6_init_59 : decode cX6_init 59 = .ok (.dup, 1) := by decide +kernel
theorem dX6_init_60 : decode cX6_init 60 = .ok (.invokespecial 31, 3) := by decide +kernel
theorem dX6_init_63 : decode cX6_init 63 = .ok (.putfield 32, 3) := by decide +kernel
theorem dX6_init_66 : decode cX6_init 66 = .ok (.aload_n 0, 1) := by decide +kernel
theorem dX6_init_67 : decode cX6_init 67 = .ok (.bipush 16, 2) := by decide +kernel
theorem dX6_init_69 : decode cX6_init 69 = .ok (.newarray .int, 2) := by decide +kernel
theorem dX6_init_71 : decode cX6_init 71 = .ok (.putfield 36, 3) := by decide +kernel
theorem dX6_init_74 : decode cX6_init 74 = .ok (.aload_n 0, 1) := by decide +kernel
theorem dX6_init_75 : decode cX6_init 75 = .ok (.bipush 16, 2) := by decide +kernel
theorem dX6_init_77 : decode cX6_init 77 = .ok (.newarray .int, 2) := by decide +kernel
theorem dX6_init_79 : decode cX6_init 79 = .ok (.putfield 40, 3) := by decide +kernel
theorem dX6_init_82 : decode cX6_init 82 = .ok (.aload_n 0, 1) := by decide +kernel
theorem dX6_init_83 : decode cX6_init 83 = .ok (.bipush 16, 2) := by decide +kernel
theorem dX6_init_85 : decode cX6_init 85 = .ok (.newarray .int, 2) := by decide +kernel
theorem dX6_init_87 : decode cX6_init 87 = .ok (.putfield 43, 3) := by decide +kernel
theorem dX6_init_90 : decode cX6_init 90 = .ok (.aload_n 0, 1) := by decide +kernel
theorem dX6_init_91 : decode cX6_init 91 = .ok (.bipush 16, 2) := by decide +kernel
theorem dX6_init_93 : decode cX6_init 93 = .ok (.newarray .int, 2) := by decide +kernel
theorem dX6_init_95 : decode cX6_init 95 = .ok (.putfield 46, 3) := by decide +kernel
theorem dX6_init_98 : decode cX6_init 98 = .ok (.aload_n 0, 1) := by decide +kernel
theorem dX6_init_99 : decode cX6_init 99 = .ok (.bipush 16, 2) := by decide +kernel
theorem dX6_init_101 : decode cX6_init 101 = .ok (.newarray .int, 2) := by decide +kernel
theorem dX6_init_103 : decode cX6_init 103 = .ok (.putfield 49, 3) := by decide +kernel
theorem dX6_init_106 : decode cX6_init 106 = .ok (.aload_n 0, 1) := by decide +kernel
theorem dX6_init_107 : decode cX6_init 107 = .ok (.bipush 16, 2) := by decide +kernel
theorem dX6_init_109 : decode cX6_init 109 = .ok (.newarray .int, 2) := by decide +kernel
theorem dX6_init_111 : decode cX6_init 111 = .ok (.putfield 52, 3) := by decide +kernel
theorem dX6_init_114 : decode cX6_init 114 = .ok (.aload_n 0, 1) := by decide +kernel
theorem dX6_init_115 : decode cX6_init 115 = .ok (.bipush 16, 2) := by decide +kernel
theorem dX6_init_117 : decode cX6_init 117 = .ok (.newarray .int, 2) := by decide +kernel
theorem dX6_init_119 : decode cX6_init 119 = .ok (.putfield 55, 3) := by decide +kernel
theorem dX6_init_122 : decode cX6_init 122 = .ok (.aload_n 0, 1) := by decide +kernel
theorem dX6_init_123 : decode cX6_init 123 = .ok (.bipush 16, 2) := by decide +kernel
theorem dX6_init_125 : decode cX6_init 125 = .ok (.newarray .int, 2) := by decide +kernel
theorem dX6_init_127 : decode cX6_init 127 = .ok (.putfield 58, 3) := by decide +kernel
theorem dX6_init_130 : decode cX6_init 130 = .ok (.aload_n 0, 1) := by decide +kernel
theorem dX6_init_131 : decode cX6_init 131 = .ok (.bipush 16, 2) := by decide +kernel
theorem dX6_init_133 : decode cX6_init 133 = .ok (.bipush 16, 2) := by decide +kernel
theorem dX6_init_135 : decode cX6_init 135 = .ok (.multianewarray 61 2, 4) := by decide +kernel
theorem dX6_init_139 : decode cX6_init 139 = .ok (.putfield 63, 3) := by decide +kernel
theorem dX6_init_142 : decode cX6_init 142 = .ok (.aload_n 0, 1) := by decide +kernel
theorem dX6_init_143 : decode cX6_init 143 = .ok (.bipush 8, 2) := by decide +kernel
theorem dX6_init_145 : decode cX6_init 145 = .ok (.newarray .int, 2) := by decide +kernel
theorem dX6_init_147 : decode cX6_init 147 = .ok (.putfield 66, 3) := by decide +kernel
theorem dX6_init_150 : decode cX6_init 150 = .ok (.aload_n 0, 1) := by decide +kernel
theorem dX6_init_151 : decode cX6_init 151 = .ok (.bipush 8, 2) := by decide +kernel
theorem dX6_init_153 : decode cX6_init 153 = .ok (.newarray .int, 2) := by decide +kernel
theorem dX6_init_155 : decode cX6_init 155 = .ok (.putfield 69, 3) := by decide +kernel
theorem dX6_init_158 : decode cX6_init 158 = .ok (.return_, 1) := by decide +kernel
theorem dX6_clear_0 : decode cX6_clear 0 = .ok (.aload_n 0, 1) := by decide +kernel
theorem dX6_clear_1 : decode cX6_clear 1 = .ok (.getfield 14, 3) := by decide +kernel
theorem dX6_clear_4 : decode cX6_clear 4 = .ok (.iconst 0, 1) := by decide +kernel
theorem dX6_clear_5 : decode cX6_clear 5 = .ok (.putfield 72, 3) := by decide +kernel
theorem dX6_clear_8 : decode cX6_clear 8 = .ok (.aload_n 0, 1) := by decide +kernel
theorem dX6_clear_9 : decode cX6_clear 9 = .ok (.getfield 20, 3) := by decide +kernel
theorem dX6_clear_12 : decode cX6_clear 12 = .ok (.iconst 0, 1) := by decide +kernel
theorem dX6_clear_13 : decode cX6_clear 13 = .ok (.putfield 72, 3) := by decide +kernel
theorem dX6_clear_16 : decode cX6_clear 16 = .ok (.aload_n 0, 1) := by decide +kernel
theorem dX6_clear_17 : decode cX6_clear 17 = .ok (.getfield 23, 3) := by decide +kernel
theorem dX6_clear_20 : decode cX6_clear 20 = .ok (.iconst 0, 1) := by decide +kernel
theorem dX6_clear_21 : decode cX6_clear 21 = .ok (.putfield 72, 3) := by decide +kernel
theorem dX6_clear_24 : decode cX6_clear 24 = .ok (.aload_n 0, 1) := by decide +kernel
theorem dX6_clear_25 : decode cX6_clear 25 = .ok (.getfield 26, 3) := by decide +kernel
theorem dX6_clear_28 : decode cX6_clear 28 = .ok (.iconst 0, 1) := by decide +kernel
theorem dX6_clear_29 : decode cX6_clear 29 = .ok (.putfield 72, 3) := by decide +kernel
theorem dX6_clear_32 : decode cX6_clear 32 = .ok (.aload_n 0, 1) := by decide +kernel
theorem dX6_clear_33 : decode cX6_clear 33 = .ok (.getfield 32, 3) := by decide +kernel
theorem dX6_clear_36 : decode cX6_clear 36 = .ok (.iconst 0, 1) := by decide +kernel
theorem dX6_clear_37 : decode cX6_clear 37 = .ok (.putfield 76, 3) := by decide +kernel
theorem dX6_clear_40 : decode cX6_clear 40 = .ok (.aload_n 0, 1) := by decide +kernel
theorem dX6_clear_41 : decode cX6_clear 41 = .ok (.iconst 0, 1) := by decide +kernel
theorem dX6_clear_42 : decode cX6_clear 42 = .ok (.putfield 77, 3) := by decide +kernel
theorem dX6_clear_45 : decode cX6_clear 45 = .ok (.return_, 1) := by decide +kernel
theorem dX6_hasChoice_0 : decode cX6_hasChoice 0 = .ok (.iload_n 1, 1) := by decide +kernel
theorem dX6_hasChoice_1 : decode cX6_hasChoice 1 = .ok (.ifCond .lt 21, 3) := by decide +kernel
theorem dX6_hasChoice_4 : decode cX6_hasChoice 4 = .ok (.iload_n 1, 1) := by decide +kernel
theorem dX6_hasChoice_5 : decode cX6_hasChoice 5 = .ok (.aload_n 0, 1) := by decide +kernel
theorem dX6_hasChoice_6 : decode cX6_hasChoice 6 = .ok (.getfield 77, 3) := by decide +kernel
theorem dX6_hasChoice_9 : decode cX6_hasChoice 9 = .ok (.if_icmp .ge 13, 3) := by decide +kernel
theorem dX6_hasChoice_12 : decode cX6_hasChoice 12 = .ok (.iload_n 1, 1) := by decide +kernel
theorem dX6_hasChoice_13 : decode cX6_hasChoice 13 = .ok (.bipush 8, 2) := by decide +kernel
theorem dX6_hasChoice_15 : decode cX6_hasChoice 15 = .ok (.if_icmp .ge 7, 3) := by decide +kernel
theorem dX6_hasChoice_18 : decode cX6_hasChoice 18 = .ok (.iconst 1, 1) := by decide +kernel
theorem dX6_hasChoice_19 : decode cX6_hasChoice 19 = .ok (.goto 4, 3) := by decide +kernel
theorem dX6_hasChoice_22 : decode cX6_hasChoice 22 = .ok (.iconst 0, 1) := by decide +kernel
theorem dX6_hasChoice_23 : decode cX6_hasChoice 23 = .ok (.ireturn, 1) := by decide +kernel
theorem dX6_isNamed_0 : decode cX6_isNamed 0 = .ok (.aload_n 0, 1) := by decide +kernel
theorem dX6_isNamed_1 : decode cX6_isNamed 1 = .ok (.getfield 14, 3) := by decide +kernel
theorem dX6_isNamed_4 : decode cX6_isNamed 4 = .ok (.lload_n 1, 1) := by decide +kernel
theorem dX6_isNamed_5 : decode cX6_isNamed 5 = .ok (.invokevirtual 80, 3) := by decide +kernel
theorem dX6_isNamed_8 : decode cX6_isNamed 8 = .ok (.iconst (-1), 1) := by decide +kernel
theorem dX6_isNamed_9 : decode cX6_isNamed 9 = .ok (.if_icmp .ne 27, 3) := by decide +kernel
theorem dX6_isNamed_12 : decode cX6_isNamed 12 = .ok (.aload_n 0, 1) := by decide +kernel
theorem dX6_isNamed_13 : decode cX6_isNamed 13 = .ok (.getfield 20, 3) := by decide +kernel
theorem dX6_isNamed_16 : decode cX6_isNamed 16 = .ok (.lload_n 1, 1) := by decide +kernel
theorem dX6_isNamed_17 : decode cX6_isNamed 17 = .ok (.invokevirtual 80, 3) := by decide +kernel
theorem dX6_isNamed_20 : decode cX6_isNamed 20 = .ok (.iconst (-1), 1) := by decide +kernel
theorem dX6_isNamed_21 : decode cX6_isNamed 21 = .ok (.if_icmp .ne 15, 3) := by decide +kernel
theorem dX6_isNamed_24 : decode cX6_isNamed 24 = .ok (.aload_n 0, 1) := by decide +kernel
theorem dX6_isNamed_25 : decode cX6_isNamed 25 = .ok (.getfield 23, 3) := by decide +kernel
theorem dX6_isNamed_28 : decode cX6_isNamed 28 = .ok (.lload_n 1, 1) := by decide +kernel
theorem dX6_isNamed_29 : decode cX6_isNamed 29 = .ok (.invokevirtual 80, 3) := by decide +kernel
theorem dX6_isNamed_32 : decode cX6_isNamed 32 = .ok (.iconst (-1), 1) := by decide +kernel
theorem dX6_isNamed_33 : decode cX6_isNamed 33 = .ok (.if_icmp .eq 7, 3) := by decide +kernel
theorem dX6_isNamed_36 : decode cX6_isNamed 36 = .ok (.iconst 1, 1) := by decide +kernel
theorem dX6_isNamed_37 : decode cX6_isNamed 37 = .ok (.goto 4, 3) := by decide +kernel
theorem dX6_isNamed_40 : decode cX6_isNamed 40 = .ok (.iconst 0, 1) := by decide +kernel
theorem dX6_isNamed_41 : decode cX6_isNamed 41 = .ok (.ireturn, 1) := by decide +kernel
theorem dX6_isSuiting_0 : decode cX6_isSuiting 0 = .ok (.aload_n 0, 1) := by decide +kernel
theorem dX6_isSuiting_1 : decode cX6_isSuiting 1 = .ok (.iload_n 1, 1) := by decide +kernel
theorem dX6_isSuiting_2 : decode cX6_isSuiting 2 = .ok (.invokevirtual 84, 3) := by decide +kernel
theorem dX6_isSuiting_5 : decode cX6_isSuiting 5 = .ok (.ifCond .eq 32, 3) := by decide +kernel
theorem dX6_isSuiting_8 : decode cX6_isSuiting 8 = .ok (.aload_n 0, 1) := by decide +kernel
theorem dX6_isSuiting_9 : decode cX6_isSuiting 9 = .ok (.getfield 20, 3) := by decide +kernel
theorem dX6_isSuiting_12 : decode cX6_isSuiting 12 = .ok (.iload_n 2, 1) := by decide +kernel
theorem dX6_isSuiting_13 : decode cX6_isSuiting 13 = .ok (.invokevirtual 88, 3) := by decide +kernel
theorem dX6_isSuiting_16 : decode cX6_isSuiting 16 = .ok (.ifCond .eq 21, 3) := by decide +kernel
theorem dX6_isSuiting_19 : decode cX6_isSuiting 19 = .ok (.aload_n 0, 1) := by decide +kernel
theorem dX6_isSuiting_20 : decode cX6_isSuiting 20 = .ok (.getfield 69, 3) := by decide +kernel
theorem dX6_isSuiting_23 : decode cX6_isSuiting 23 = .ok (.iload_n 1, 1) := by decide +kernel
theorem dX6_isSuiting_24 : decode cX6_isSuiting 24 = .ok (.iaload, 1) := by decide +kernel
theorem dX6_isSuiting_25 : decode cX6_isSuiting 25 = .ok (.iload_n 2, 1) := by decide +kernel
theorem dX6_isSuiting_26 : decode cX6_isSuiting 26 = .ok (.ishr, 1) := by decide +kernel
theorem dX6_isSuiting_27 : decode cX6_isSuiting 27 = .ok (.iconst 1, 1) := by decide +kernel
theorem dX6_isSuiting_28 : decode cX6_isSuiting 28 = .ok (.iand, 1) := by decide +kernel
theorem dX6_isSuiting_29 : decode cX6_isSuiting 29 = .ok (.iconst 1, 1) := by decide +kernel
theorem dX6_isSuiting_30 : decode cX6_isSuiting 30 = .ok (.if_icmp .ne 7, 3) := by decide +kernel
theorem dX6_isSuiting_33 : decode cX6_isSuiting 33 = .ok (.iconst 1, 1) := by decide +kernel
theorem dX6_isSuiting_34 : decode cX6_isSuiting 34 = .ok (.goto 4, 3) := by decide +kernel
theorem dX6_isSuiting_37 : decode cX6_isSuiting 37 = .ok (.iconst 0, 1) := by decide +kernel
theorem dX6_isSuiting_38 : decode cX6_isSuiting 38 = .ok (.ireturn, 1) := by decide +kernel
theorem dX6_dishesWithTag_0 : decode cX6_dishesWithTag 0 = .ok (.iconst 0, 1) := by decide +kernel
theorem dX6_dishesWithTag_1 : decode cX6_dishesWithTag 1 = .ok (.istore_n 2, 1) := by decide +kernel
theorem dX6_dishesWithTag_2 : decode cX6_dishesWithTag 2 = .ok (.iconst 0, 1) := by decide +kernel
theorem dX6_dishesWithTag_3 : decode cX6_dishesWithTag 3 = .ok (.istore_n 3, 1) := by decide +kernel
theorem dX6_dishesWithTag_4 : decode cX6_dishesWithTag 4 = .ok (.iload_n 3, 1) := by decide +kernel
theorem dX6_dishesWithTag_5 : decode cX6_dishesWithTag 5 = .ok (.aload_n 0, 1) := by decide +kernel
theorem dX6_dishesWithTag_6 : decode cX6_dishesWithTag 6 = .ok (.getfield 20, 3) := by decide +kernel
theorem dX6_dishesWithTag_9 : decode cX6_dishesWithTag 9 = .ok (.getfield 72, 3) := by decide +kernel
theorem dX6_dishesWithTag_12 : decode cX6_dishesWithTag 12 = .ok (.if_icmp .ge 39, 3) := by decide +kernel
theorem dX6_dishesWithTag_15 : decode cX6_dishesWithTag 15 = .ok (.iload_n 3, 1) := by decide +kernel
theorem dX6_dishesWithTag_16 : decode cX6_dishesWithTag 16 = .ok (.bipush 16, 2) := by decide +kernel
theorem dX6_dishesWithTag_18 : decode cX6_dishesWithTag 18 = .ok (.if_icmp .ge 33, 3) := by decide +kernel
theorem dX6_dishesWithTag_21 : decode cX6_dishesWithTag 21 = .ok (.iload_n 1, 1) := by decide +kernel
theorem dX6_dishesWithTag_22 : decode cX6_dishesWithTag 22 = .ok (.ifCond .lt 23, 3) := by decide +kernel
theorem dX6_dishesWithTag_25 : decode cX6_dishesWithTag 25 = .ok (.aload_n 0, 1) := by decide +kernel
theorem dX6_dishesWithTag_26 : decode cX6_dishesWithTag 26 = .ok (.getfield 55, 3) := by decide +kernel
theorem dX6_dishesWithTag_29 : decode cX6_dishesWithTag 29 = .ok (.iload_n 3, 1) := by decide +kernel
theorem dX6_dishesWithTag_30 : decode cX6_dishesWithTag 30 = .ok (.iaload, 1) := by decide +kernel
theorem dX6_dishesWithTag_31 : decode cX6_dishesWithTag 31 = .ok (.iload_n 1, 1) := by decide +kernel
theorem dX6_dishesWithTag_32 : decode cX6_dishesWithTag 32 = .ok (.ishr, 1) := by decide +kernel
theorem dX6_dishesWithTag_33 : decode cX6_dishesWithTag 33 = .ok (.iconst 1, 1) := by decide +kernel
theorem dX6_dishesWithTag_34 : decode cX6_dishesWithTag 34 = .ok (.iand, 1) := by decide +kernel
theorem dX6_dishesWithTag_35 : decode cX6_dishesWithTag 35 = .ok (.iconst 1, 1) := by decide +kernel
theorem dX6_dishesWithTag_36 : decode cX6_dishesWithTag 36 = .ok (.if_icmp .ne 9, 3) := by decide +kernel
theorem dX6_dishesWithTag_39 : decode cX6_dishesWithTag 39 = .ok (.iload_n 2, 1) := by decide +kernel
theorem dX6_dishesWithTag_40 : decode cX6_dishesWithTag 40 = .ok (.iconst 1, 1) := by decide +kernel
theorem dX6_dishesWithTag_41 : decode cX6_dishesWithTag 41 = .ok (.iload_n 3, 1) := by decide +kernel
theorem dX6_dishesWithTag_42 : decode cX6_dishesWithTag 42 = .ok (.ishl, 1) := by decide +kernel
theorem dX6_dishesWithTag_43 : decode cX6_dishesWithTag 43 = .ok (.ior, 1) := by decide +kernel
theorem dX6_dishesWithTag_44 : decode cX6_dishesWithTag 44 = .ok (.istore_n 2, 1) := by decide +kernel
theorem dX6_dishesWithTag_45 : decode cX6_dishesWithTag 45 = .ok (.iinc 3 1, 3) := by decide +kernel
theorem dX6_dishesWithTag_48 : decode cX6_dishesWithTag 48 = .ok (.goto (-44), 3) := by decide +kernel
theorem dX6_dishesWithTag_51 : decode cX6_dishesWithTag 51 = .ok (.iload_n 2, 1) := by decide +kernel
theorem dX6_dishesWithTag_52 : decode cX6_dishesWithTag 52 = .ok (.ireturn, 1) := by decide +kernel
theorem dX6_foodFact_0 : decode cX6_foodFact 0 = .ok (.aload_n 0, 1) := by decide +kernel
theorem dX6_foodFact_1 : decode cX6_foodFact 1 = .ok (.getfield 14, 3) := by decide +kernel
theorem dX6_foodFact_4 : decode cX6_foodFact 4 = .ok (.iload_n 1, 1) := by decide +kernel
theorem dX6_foodFact_5 : decode cX6_foodFact 5 = .ok (.invokevirtual 88, 3) := by decide +kernel
theorem dX6_foodFact_8 : decode cX6_foodFact 8 = .ok (.ifCond .ne 5, 3) := by decide +kernel
theorem dX6_foodFact_11 : decode cX6_foodFact 11 = .ok (.iconst 0, 1) := by decide +kernel
theorem dX6_foodFact_12 : decode cX6_foodFact 12 = .ok (.ireturn, 1) := by decide +kernel
theorem dX6_foodFact_13 : decode cX6_foodFact 13 = .ok (.iload_n 2, 1) := by decide +kernel
theorem dX6_foodFact_14 : decode cX6_foodFact 14 = .ok (.lookupswitch 40 #[(0, 26), (1, 33)], 26) := by decide +kernel
theorem dX6_foodFact_40 : decode cX6_foodFact 40 = .ok (.aload_n 0, 1) := by decide +kernel
theorem dX6_foodFact_41 : decode cX6_foodFact 41 = .ok (.getfield 36, 3) := by decide +kernel
theorem dX6_foodFact_44 : decode cX6_foodFact 44 = .ok (.iload_n 1, 1) := by decide +kernel
theorem dX6_foodFact_45 : decode cX6_foodFact 45 = .ok (.iaload, 1) := by decide +kernel
theorem dX6_foodFact_46 : decode cX6_foodFact 46 = .ok (.ireturn, 1) := by decide +kernel
theorem dX6_foodFact_47 : decode cX6_foodFact 47 = .ok (.aload_n 0, 1) := by decide +kernel
theorem dX6_foodFact_48 : decode cX6_foodFact 48 = .ok (.getfield 40, 3) := by decide +kernel
theorem dX6_foodFact_51 : decode cX6_foodFact 51 = .ok (.iload_n 1, 1) := by decide +kernel
theorem dX6_foodFact_52 : decode cX6_foodFact 52 = .ok (.iaload, 1) := by decide +kernel
theorem dX6_foodFact_53 : decode cX6_foodFact 53 = .ok (.ireturn, 1) := by decide +kernel
theorem dX6_foodFact_54 : decode cX6_foodFact 54 = .ok (.aload_n 0, 1) := by decide +kernel
theorem dX6_foodFact_55 : decode cX6_foodFact 55 = .ok (.getfield 43, 3) := by decide +kernel
theorem dX6_foodFact_58 : decode cX6_foodFact 58 = .ok (.iload_n 1, 1) := by decide +kernel
theorem dX6_foodFact_59 : decode cX6_foodFact 59 = .ok (.iaload, 1) := by decide +kernel
theorem dX6_foodFact_60 : decode cX6_foodFact 60 = .ok (.ireturn, 1) := by decide +kernel
theorem dX6_dishFact_0 : decode cX6_dishFact 0 = .ok (.aload_n 0, 1) := by decide +kernel
theorem dX6_dishFact_1 : decode cX6_dishFact 1 = .ok (.getfield 20, 3) := by decide +kernel
theorem dX6_dishFact_4 : decode cX6_dishFact 4 = .ok (.iload_n 1, 1) := by decide +kernel
theorem dX6_dishFact_5 : decode cX6_dishFact 5 = .ok (.invokevirtual 88, 3) := by decide +kernel
theorem dX6_dishFact_8 : decode cX6_dishFact 8 = .ok (.ifCond .ne 5, 3) := by decide +kernel
theorem dX6_dishFact_11 : decode cX6_dishFact 11 = .ok (.iconst 0, 1) := by decide +kernel
theorem dX6_dishFact_12 : decode cX6_dishFact 12 = .ok (.ireturn, 1) := by decide +kernel
theorem dX6_dishFact_13 : decode cX6_dishFact 13 = .ok (.iload_n 2, 1) := by decide +kernel
theorem dX6_dishFact_14 : decode cX6_dishFact 14 = .ok (.tableswitch 58 0 3 #[30, 37, 44, 51], 30) := by decide +kernel
theorem dX6_dishFact_44 : decode cX6_dishFact 44 = .ok (.aload_n 0, 1) := by decide +kernel
theorem dX6_dishFact_45 : decode cX6_dishFact 45 = .ok (.getfield 46, 3) := by decide +kernel
theorem dX6_dishFact_48 : decode cX6_dishFact 48 = .ok (.iload_n 1, 1) := by decide +kernel
theorem dX6_dishFact_49 : decode cX6_dishFact 49 = .ok (.iaload, 1) := by decide +kernel
theorem dX6_dishFact_50 : decode cX6_dishFact 50 = .ok (.ireturn, 1) := by decide +kernel
theorem dX6_dishFact_51 : decode cX6_dishFact 51 = .ok (.aload_n 0, 1) := by decide +kernel
theorem dX6_dishFact_52 : decode cX6_dishFact 52 = .ok (.getfield 49, 3) := by decide +kernel
theorem dX6_dishFact_55 : decode cX6_dishFact 55 = .ok (.iload_n 1, 1) := by decide +kernel
theorem dX6_dishFact_56 : decode cX6_dishFact 56 = .ok (.iaload, 1) := by decide +kernel
theorem dX6_dishFact_57 : decode cX6_dishFact 57 = .ok (.ireturn, 1) := by decide +kernel
theorem dX6_dishFact_58 : decode cX6_dishFact 58 = .ok (.aload_n 0, 1) := by decide +kernel
theorem dX6_dishFact_59 : decode cX6_dishFact 59 = .ok (.getfield 52, 3) := by decide +kernel
theorem dX6_dishFact_62 : decode cX6_dishFact 62 = .ok (.iload_n 1, 1) := by decide +kernel
theorem dX6_dishFact_63 : decode cX6_dishFact 63 = .ok (.iaload, 1) := by decide +kernel
theorem dX6_dishFact_64 : decode cX6_dishFact 64 = .ok (.ireturn, 1) := by decide +kernel
theorem dX6_dishFact_65 : decode cX6_dishFact 65 = .ok (.aload_n 0, 1) := by decide +kernel
theorem dX6_dishFact_66 : decode cX6_dishFact 66 = .ok (.getfield 55, 3) := by decide +kernel
theorem dX6_dishFact_69 : decode cX6_dishFact 69 = .ok (.iload_n 1, 1) := by decide +kernel
theorem dX6_dishFact_70 : decode cX6_dishFact 70 = .ok (.iaload, 1) := by decide +kernel
theorem dX6_dishFact_71 : decode cX6_dishFact 71 = .ok (.ireturn, 1) := by decide +kernel
theorem dX6_dishFact_72 : decode cX6_dishFact 72 = .ok (.aload_n 0, 1) := by decide +kernel
theorem dX6_dishFact_73 : decode cX6_dishFact 73 = .ok (.getfield 58, 3) := by decide +kernel
theorem dX6_dishFact_76 : decode cX6_dishFact 76 = .ok (.iload_n 1, 1) := by decide +kernel
theorem dX6_dishFact_77 : decode cX6_dishFact 77 = .ok (.iaload, 1) := by decide +kernel
theorem dX6_dishFact_78 : decode cX6_dishFact 78 = .ok (.ireturn, 1) := by decide +kernel
theorem dX6_gramsFor_0 : decode cX6_gramsFor 0 = .ok (.iload_n 2, 1) := by decide +kernel
theorem dX6_gramsFor_1 : decode cX6_gramsFor 1 = .ok (.ifCond .lt 29, 3) := by decide +kernel
theorem dX6_gramsFor_4 : decode cX6_gramsFor 4 = .ok (.iload_n 2, 1) := by decide +kernel
theorem dX6_gramsFor_5 : decode cX6_gramsFor 5 = .ok (.bipush 16, 2) := by decide +kernel
theorem dX6_gramsFor_7 : decode cX6_gramsFor 7 = .ok (.if_icmp .ge 23, 3) := by decide +kernel
theorem dX6_gramsFor_10 : decode cX6_gramsFor 10 = .ok (.iload_n 3, 1) := by decide +kernel
theorem dX6_gramsFor_11 : decode cX6_gramsFor 11 = .ok (.ifCond .lt 19, 3) := by decide +kernel
theorem dX6_gramsFor_14 : decode cX6_gramsFor 14 = .ok (.iload_n 3, 1) := by decide +kernel
theorem dX6_gramsFor_15 : decode cX6_gramsFor 15 = .ok (.bipush 16, 2) := by decide +kernel
theorem dX6_gramsFor_17 : decode cX6_gramsFor 17 = .ok (.if_icmp .ge 13, 3) := by decide +kernel
theorem dX6_gramsFor_20 : decode cX6_gramsFor 20 = .ok (.aload_n 0, 1) := by decide +kernel
theorem dX6_gramsFor_21 : decode cX6_gramsFor 21 = .ok (.getfield 46, 3) := by decide +kernel
theorem dX6_gramsFor_24 : decode cX6_gramsFor 24 = .ok (.iload_n 2, 1) := by decide +kernel
theorem dX6_gramsFor_25 : decode cX6_gramsFor 25 = .ok (.iaload, 1) := by decide +kernel
theorem dX6_gramsFor_26 : decode cX6_gramsFor 26 = .ok (.iconst 1, 1) := by decide +kernel
theorem dX6_gramsFor_27 : decode cX6_gramsFor 27 = .ok (.if_icmp .ge 5, 3) := by decide +kernel
theorem dX6_gramsFor_30 : decode cX6_gramsFor 30 = .ok (.lconst 0, 1) := by decide +kernel
theorem dX6_gramsFor_31 : decode cX6_gramsFor 31 = .ok (.lreturn, 1) := by decide +kernel
theorem dX6_gramsFor_32 : decode cX6_gramsFor 32 = .ok (.iload_n 1, 1) := by decide +kernel
theorem dX6_gramsFor_33 : decode cX6_gramsFor 33 = .ok (.i2l, 1) := by decide +kernel
theorem dX6_gramsFor_34 : decode cX6_gramsFor 34 = .ok (.aload_n 0, 1) := by decide +kernel
theorem dX6_gramsFor_35 : decode cX6_gramsFor 35 = .ok (.getfield 63, 3) := by decide +kernel
theorem dX6_gramsFor_38 : decode cX6_gramsFor 38 = .ok (.iload_n 2, 1) := by decide +kernel
theorem dX6_gramsFor_39 : decode cX6_gramsFor 39 = .ok (.aaload, 1) := by decide +kernel
theorem dX6_gramsFor_40 : decode cX6_gramsFor 40 = .ok (.iload_n 3, 1) := by decide +kernel
theorem dX6_gramsFor_41 : decode cX6_gramsFor 41 = .ok (.iaload, 1) := by decide +kernel
theorem dX6_gramsFor_42 : decode cX6_gramsFor 42 = .ok (.i2l, 1) := by decide +kernel
theorem dX6_gramsFor_43 : decode cX6_gramsFor 43 = .ok (.lmul, 1) := by decide +kernel
theorem dX6_gramsFor_44 : decode cX6_gramsFor 44 = .ok (.aload_n 0, 1) := by decide +kernel
theorem dX6_gramsFor_45 : decode cX6_gramsFor 45 = .ok (.getfield 46, 3) := by decide +kernel
theorem dX6_gramsFor_48 : decode cX6_gramsFor 48 = .ok (.iload_n 2, 1) := by decide +kernel
theorem dX6_gramsFor_49 : decode cX6_gramsFor 49 = .ok (.iaload, 1) := by decide +kernel
theorem dX6_gramsFor_50 : decode cX6_gramsFor 50 = .ok (.i2l, 1) := by decide +kernel
theorem dX6_gramsFor_51 : decode cX6_gramsFor 51 = .ok (.ldiv, 1) := by decide +kernel
theorem dX6_gramsFor_52 : decode cX6_gramsFor 52 = .ok (.lreturn, 1) := by decide +kernel
theorem dX6_addTo_0 : decode cX6_addTo 0 = .ok (.lload_n 1, 1) := by decide +kernel
theorem dX6_addTo_1 : decode cX6_addTo 1 = .ok (.lstore_n 3, 1) := by decide +kernel
theorem dX6_addTo_2 : decode cX6_addTo 2 = .ok (.iconst 0, 1) := by decide +kernel
theorem dX6_addTo_3 : decode cX6_addTo 3 = .ok (.istore 5, 2) := by decide +kernel
theorem dX6_addTo_5 : decode cX6_addTo 5 = .ok (.iload 5, 2) := by decide +kernel
theorem dX6_addTo_7 : decode cX6_addTo 7 = .ok (.aload_n 0, 1) := by decide +kernel
theorem dX6_addTo_8 : decode cX6_addTo 8 = .ok (.getfield 14, 3) := by decide +kernel
theorem dX6_addTo_11 : decode cX6_addTo 11 = .ok (.getfield 72, 3) := by decide +kernel
theorem dX6_addTo_14 : decode cX6_addTo 14 = .ok (.if_icmp .ge 40, 3) := by decide +kernel
theorem dX6_addTo_17 : decode cX6_addTo 17 = .ok (.iconst 0, 1) := by decide +kernel
theorem dX6_addTo_18 : decode cX6_addTo 18 = .ok (.istore 6, 2) := by decide +kernel
theorem dX6_addTo_20 : decode cX6_addTo 20 = .ok (.iload 6, 2) := by decide +kernel
theorem dX6_addTo_22 : decode cX6_addTo 22 = .ok (.iconst 3, 1) := by decide +kernel
theorem dX6_addTo_23 : decode cX6_addTo 23 = .ok (.if_icmp .ge 25, 3) := by decide +kernel
theorem dX6_addTo_26 : decode cX6_addTo 26 = .ok (.lload_n 3, 1) := by decide +kernel
theorem dX6_addTo_27 : decode cX6_addTo 27 = .ok (.ldc2_w 91, 3) := by decide +kernel
theorem dX6_addTo_30 : decode cX6_addTo 30 = .ok (.lmul, 1) := by decide +kernel
theorem dX6_addTo_31 : decode cX6_addTo 31 = .ok (.aload_n 0, 1) := by decide +kernel
theorem dX6_addTo_32 : decode cX6_addTo 32 = .ok (.iload 5, 2) := by decide +kernel
theorem dX6_addTo_34 : decode cX6_addTo 34 = .ok (.iload 6, 2) := by decide +kernel
theorem dX6_addTo_36 : decode cX6_addTo 36 = .ok (.invokevirtual 93, 3) := by decide +kernel
theorem dX6_addTo_39 : decode cX6_addTo 39 = .ok (.i2l, 1) := by decide +kernel
theorem dX6_addTo_40 : decode cX6_addTo 40 = .ok (.ladd, 1) := by decide +kernel
theorem dX6_addTo_41 : decode cX6_addTo 41 = .ok (.lstore_n 3, 1) := by decide +kernel
theorem dX6_addTo_42 : decode cX6_addTo 42 = .ok (.iinc 6 1, 3) := by decide +kernel
theorem dX6_addTo_45 : decode cX6_addTo 45 = .ok (.goto (-25), 3) := by decide +kernel
theorem dX6_addTo_48 : decode cX6_addTo 48 = .ok (.iinc 5 1, 3) := by decide +kernel
theorem dX6_addTo_51 : decode cX6_addTo 51 = .ok (.goto (-46), 3) := by decide +kernel
theorem dX6_addTo_54 : decode cX6_addTo 54 = .ok (.iconst 0, 1) := by decide +kernel
theorem dX6_addTo_55 : decode cX6_addTo 55 = .ok (.istore 5, 2) := by decide +kernel
theorem dX6_addTo_57 : decode cX6_addTo 57 = .ok (.iload 5, 2) := by decide +kernel
theorem dX6_addTo_59 : decode cX6_addTo 59 = .ok (.aload_n 0, 1) := by decide +kernel
theorem dX6_addTo_60 : decode cX6_addTo 60 = .ok (.getfield 20, 3) := by decide +kernel
theorem dX6_addTo_63 : decode cX6_addTo 63 = .ok (.getfield 72, 3) := by decide +kernel
theorem dX6_addTo_66 : decode cX6_addTo 66 = .ok (.if_icmp .ge 40, 3) := by decide +kernel
theorem dX6_addTo_69 : decode cX6_addTo 69 = .ok (.iconst 0, 1) := by decide +kernel
theorem dX6_addTo_70 : decode cX6_addTo 70 = .ok (.istore 6, 2) := by decide +kernel
theorem dX6_addTo_72 : decode cX6_addTo 72 = .ok (.iload 6, 2) := by decide +kernel
theorem dX6_addTo_74 : decode cX6_addTo 74 = .ok (.iconst 5, 1) := by decide +kernel
theorem dX6_addTo_75 : decode cX6_addTo 75 = .ok (.if_icmp .ge 25, 3) := by decide +kernel
theorem dX6_addTo_78 : decode cX6_addTo 78 = .ok (.lload_n 3, 1) := by decide +kernel
theorem dX6_addTo_79 : decode cX6_addTo 79 = .ok (.ldc2_w 91, 3) := by decide +kernel
theorem dX6_addTo_82 : decode cX6_addTo 82 = .ok (.lmul, 1) := by decide +kernel
theorem dX6_addTo_83 : decode cX6_addTo 83 = .ok (.aload_n 0, 1) := by decide +kernel
theorem dX6_addTo_84 : decode cX6_addTo 84 = .ok (.iload 5, 2) := by decide +kernel
theorem dX6_addTo_86 : decode cX6_addTo 86 = .ok (.iload 6, 2) := by decide +kernel
theorem dX6_addTo_88 : decode cX6_addTo 88 = .ok (.invokevirtual 97, 3) := by decide +kernel
theorem dX6_addTo_91 : decode cX6_addTo 91 = .ok (.i2l, 1) := by decide +kernel
theorem dX6_addTo_92 : decode cX6_addTo 92 = .ok (.ladd, 1) := by decide +kernel
theorem dX6_addTo_93 : decode cX6_addTo 93 = .ok (.lstore_n 3, 1) := by decide +kernel
theorem dX6_addTo_94 : decode cX6_addTo 94 = .ok (.iinc 6 1, 3) := by decide +kernel
theorem dX6_addTo_97 : decode cX6_addTo 97 = .ok (.goto (-25), 3) := by decide +kernel
theorem dX6_addTo_100 : decode cX6_addTo 100 = .ok (.iinc 5 1, 3) := by decide +kernel
theorem dX6_addTo_103 : decode cX6_addTo 103 = .ok (.goto (-46), 3) := by decide +kernel
theorem dX6_addTo_106 : decode cX6_addTo 106 = .ok (.iconst 0, 1) := by decide +kernel
theorem dX6_addTo_107 : decode cX6_addTo 107 = .ok (.istore 5, 2) := by decide +kernel
theorem dX6_addTo_109 : decode cX6_addTo 109 = .ok (.iload 5, 2) := by decide +kernel
theorem dX6_addTo_111 : decode cX6_addTo 111 = .ok (.aload_n 0, 1) := by decide +kernel
theorem dX6_addTo_112 : decode cX6_addTo 112 = .ok (.getfield 77, 3) := by decide +kernel
theorem dX6_addTo_115 : decode cX6_addTo 115 = .ok (.if_icmp .ge 46, 3) := by decide +kernel
theorem dX6_addTo_118 : decode cX6_addTo 118 = .ok (.iload 5, 2) := by decide +kernel
theorem dX6_addTo_120 : decode cX6_addTo 120 = .ok (.bipush 8, 2) := by decide +kernel
theorem dX6_addTo_122 : decode cX6_addTo 122 = .ok (.if_icmp .ge 39, 3) := by decide +kernel
theorem dX6_addTo_125 : decode cX6_addTo 125 = .ok (.lload_n 3, 1) := by decide +kernel
theorem dX6_addTo_126 : decode cX6_addTo 126 = .ok (.ldc2_w 91, 3) := by decide +kernel
theorem dX6_addTo_129 : decode cX6_addTo 129 = .ok (.lmul, 1) := by decide +kernel
theorem dX6_addTo_130 : decode cX6_addTo 130 = .ok (.aload_n 0, 1) := by decide +kernel
theorem dX6_addTo_131 : decode cX6_addTo 131 = .ok (.getfield 66, 3) := by decide +kernel
theorem dX6_addTo_134 : decode cX6_addTo 134 = .ok (.iload 5, 2) := by decide +kernel
theorem dX6_addTo_136 : decode cX6_addTo 136 = .ok (.iaload, 1) := by decide +kernel
theorem dX6_addTo_137 : decode cX6_addTo 137 = .ok (.i2l, 1) := by decide +kernel
theorem dX6_addTo_138 : decode cX6_addTo 138 = .ok (.ladd, 1) := by decide +kernel
theorem dX6_addTo_139 : decode cX6_addTo 139 = .ok (.lstore_n 3, 1) := by decide +kernel
theorem dX6_addTo_140 : decode cX6_addTo 140 = .ok (.lload_n 3, 1) := by decide +kernel
theorem dX6_addTo_141 : decode cX6_addTo 141 = .ok (.ldc2_w 91, 3) := by decide +kernel
theorem dX6_addTo_144 : decode cX6_addTo 144 = .ok (.lmul, 1) := by decide +kernel
theorem dX6_addTo_145 : decode cX6_addTo 145 = .ok (.aload_n 0, 1) := by decide +kernel
theorem dX6_addTo_146 : decode cX6_addTo 146 = .ok (.getfield 69, 3) := by decide +kernel
theorem dX6_addTo_149 : decode cX6_addTo 149 = .ok (.iload 5, 2) := by decide +kernel
theorem dX6_addTo_151 : decode cX6_addTo 151 = .ok (.iaload, 1) := by decide +kernel
theorem dX6_addTo_152 : decode cX6_addTo 152 = .ok (.i2l, 1) := by decide +kernel
theorem dX6_addTo_153 : decode cX6_addTo 153 = .ok (.ladd, 1) := by decide +kernel
theorem dX6_addTo_154 : decode cX6_addTo 154 = .ok (.lstore_n 3, 1) := by decide +kernel
theorem dX6_addTo_155 : decode cX6_addTo 155 = .ok (.iinc 5 1, 3) := by decide +kernel
theorem dX6_addTo_158 : decode cX6_addTo 158 = .ok (.goto (-49), 3) := by decide +kernel
theorem dX6_addTo_161 : decode cX6_addTo 161 = .ok (.iconst 0, 1) := by decide +kernel
theorem dX6_addTo_162 : decode cX6_addTo 162 = .ok (.istore 5, 2) := by decide +kernel
theorem dX6_addTo_164 : decode cX6_addTo 164 = .ok (.iload 5, 2) := by decide +kernel
theorem dX6_addTo_166 : decode cX6_addTo 166 = .ok (.aload_n 0, 1) := by decide +kernel
theorem dX6_addTo_167 : decode cX6_addTo 167 = .ok (.getfield 32, 3) := by decide +kernel
theorem dX6_addTo_170 : decode cX6_addTo 170 = .ok (.getfield 76, 3) := by decide +kernel
theorem dX6_addTo_173 : decode cX6_addTo 173 = .ok (.if_icmp .ge 43, 3) := by decide +kernel
theorem dX6_addTo_176 : decode cX6_addTo 176 = .ok (.iconst 0, 1) := by decide +kernel
theorem dX6_addTo_177 : decode cX6_addTo 177 = .ok (.istore 6, 2) := by decide +kernel
theorem dX6_addTo_179 : decode cX6_addTo 179 = .ok (.iload 6, 2) := by decide +kernel
theorem dX6_addTo_181 : decode cX6_addTo 181 = .ok (.iconst 4, 1) := by decide +kernel
theorem dX6_addTo_182 : decode cX6_addTo 182 = .ok (.if_icmp .ge 28, 3) := by decide +kernel
theorem dX6_addTo_185 : decode cX6_addTo 185 = .ok (.lload_n 3, 1) := by decide +kernel
theorem dX6_addTo_186 : decode cX6_addTo 186 = .ok (.ldc2_w 91, 3) := by decide +kernel
theorem dX6_addTo_189 : decode cX6_addTo 189 = .ok (.lmul, 1) := by decide +kernel
theorem dX6_addTo_190 : decode cX6_addTo 190 = .ok (.aload_n 0, 1) := by decide +kernel
theorem dX6_addTo_191 : decode cX6_addTo 191 = .ok (.getfield 32, 3) := by decide +kernel
theorem dX6_addTo_194 : decode cX6_addTo 194 = .ok (.iload 5, 2) := by decide +kernel
theorem dX6_addTo_196 : decode cX6_addTo 196 = .ok (.iload 6, 2) := by decide +kernel
theorem dX6_addTo_198 : decode cX6_addTo 198 = .ok (.invokevirtual 100, 3) := by decide +kernel
theorem dX6_addTo_201 : decode cX6_addTo 201 = .ok (.i2l, 1) := by decide +kernel
theorem dX6_addTo_202 : decode cX6_addTo 202 = .ok (.ladd, 1) := by decide +kernel
theorem dX6_addTo_203 : decode cX6_addTo 203 = .ok (.lstore_n 3, 1) := by decide +kernel
theorem dX6_addTo_204 : decode cX6_addTo 204 = .ok (.iinc 6 1, 3) := by decide +kernel
theorem dX6_addTo_207 : decode cX6_addTo 207 = .ok (.goto (-28), 3) := by decide +kernel
theorem dX6_addTo_210 : decode cX6_addTo 210 = .ok (.iinc 5 1, 3) := by decide +kernel
theorem dX6_addTo_213 : decode cX6_addTo 213 = .ok (.goto (-49), 3) := by decide +kernel
theorem dX6_addTo_216 : decode cX6_addTo 216 = .ok (.lload_n 3, 1) := by decide +kernel
theorem dX6_addTo_217 : decode cX6_addTo 217 = .ok (.lreturn, 1) := by decide +kernel
theorem dX7_init_0 : decode cX7_init 0 = .ok (.aload_n 0, 1) := by decide +kernel
theorem dX7_init_1 : decode cX7_init 1 = .ok (.invokespecial 3, 3) := by decide +kernel
theorem dX7_init_4 : decode cX7_init 4 = .ok (.aload_n 0, 1) := by decide +kernel
theorem dX7_init_5 : decode cX7_init 5 = .ok (.bipush 8, 2) := by decide +kernel
theorem dX7_init_7 : decode cX7_init 7 = .ok (.newarray .int, 2) := by decide +kernel
theorem dX7_init_9 : decode cX7_init 9 = .ok (.putfield 9, 3) := by decide +kernel
theorem dX7_init_12 : decode cX7_init 12 = .ok (.aload_n 0, 1) := by decide +kernel
theorem dX7_init_13 : decode cX7_init 13 = .ok (.bipush 8, 2) := by decide +kernel
theorem dX7_init_15 : decode cX7_init 15 = .ok (.newarray .int, 2) := by decide +kernel
theorem dX7_init_17 : decode cX7_init 17 = .ok (.putfield 15, 3) := by decide +kernel
theorem dX7_init_20 : decode cX7_init 20 = .ok (.aload_n 0, 1) := by decide +kernel
theorem dX7_init_21 : decode cX7_init 21 = .ok (.bipush 8, 2) := by decide +kernel
theorem dX7_init_23 : decode cX7_init 23 = .ok (.newarray .int, 2) := by decide +kernel
theorem dX7_init_25 : decode cX7_init 25 = .ok (.putfield 18, 3) := by decide +kernel
theorem dX7_init_28 : decode cX7_init 28 = .ok (.aload_n 0, 1) := by decide +kernel
theorem dX7_init_29 : decode cX7_init 29 = .ok (.bipush 8, 2) := by decide +kernel
theorem dX7_init_31 : decode cX7_init 31 = .ok (.newarray .int, 2) := by decide +kernel
theorem dX7_init_33 : decode cX7_init 33 = .ok (.putfield 21, 3) := by decide +kernel
theorem dX7_init_36 : decode cX7_init 36 = .ok (.return_, 1) := by decide +kernel
theorem dX7_has_0 : decode cX7_has 0 = .ok (.iload_n 1, 1) := by decide +kernel
theorem dX7_has_1 : decode cX7_has 1 = .ok (.ifCond .lt 21, 3) := by decide +kernel
theorem dX7_has_4 : decode cX7_has 4 = .ok (.iload_n 1, 1) := by decide +kernel
theorem dX7_has_5 : decode cX7_has 5 = .ok (.aload_n 0, 1) := by decide +kernel
theorem dX7_has_6 : decode cX7_has 6 = .ok (.getfield 24, 3) := by decide +kernel
theorem dX7_has_9 : decode cX7_has 9 = .ok (.if_icmp .ge 13, 3) := by decide +kernel
theorem dX7_has_12 : decode cX7_has 12 = .ok (.iload_n 1, 1) := by decide +kernel
theorem dX7_has_13 : decode cX7_has 13 = .ok (.bipush 8, 2) := by decide +kernel
theorem dX7_has_15 : decode cX7_has 15 = .ok (.if_icmp .ge 7, 3) := by decide +kernel
theorem dX7_has_18 : decode cX7_has 18 = .ok (.iconst 1, 1) := by decide +kernel
theorem dX7_has_19 : decode cX7_has 19 = .ok (.goto 4, 3) := by decide +kernel
theorem dX7_has_22 : decode cX7_has 22 = .ok (.iconst 0, 1) := by decide +kernel
theorem dX7_has_23 : decode cX7_has 23 = .ok (.ireturn, 1) := by decide +kernel
theorem dX7_fact_0 : decode cX7_fact 0 = .ok (.aload_n 0, 1) := by decide +kernel
theorem dX7_fact_1 : decode cX7_fact 1 = .ok (.iload_n 1, 1) := by decide +kernel
theorem dX7_fact_2 : decode cX7_fact 2 = .ok (.invokevirtual 28, 3) := by decide +kernel
theorem dX7_fact_5 : decode cX7_fact 5 = .ok (.ifCond .ne 5, 3) := by decide +kernel
theorem dX7_fact_8 : decode cX7_fact 8 = .ok (.iconst 0, 1) := by decide +kernel
theorem dX7_fact_9 : decode cX7_fact 9 = .ok (.ireturn, 1) := by decide +kernel
theorem dX7_fact_10 : decode cX7_fact 10 = .ok (.iload_n 2, 1) := by decide +kernel
theorem dX7_fact_11 : decode cX7_fact 11 = .ok (.tableswitch 46 0 2 #[25, 32, 39], 25) := by decide +kernel
theorem dX7_fact_36 : decode cX7_fact 36 = .ok (.aload_n 0, 1) := by decide +kernel
theorem dX7_fact_37 : decode cX7_fact 37 = .ok (.getfield 9, 3) := by decide +kernel
theorem dX7_fact_40 : decode cX7_fact 40 = .ok (.iload_n 1, 1) := by decide +kernel
theorem dX7_fact_41 : decode cX7_fact 41 = .ok (.iaload, 1) := by decide +kernel
theorem dX7_fact_42 : decode cX7_fact 42 = .ok (.ireturn, 1) := by decide +kernel
theorem dX7_fact_43 : decode cX7_fact 43 = .ok (.aload_n 0, 1) := by decide +kernel
theorem dX7_fact_44 : decode cX7_fact 44 = .ok (.getfield 15, 3) := by decide +kernel
theorem dX7_fact_47 : decode cX7_fact 47 = .ok (.iload_n 1, 1) := by decide +kernel
theorem dX7_fact_48 : decode cX7_fact 48 = .ok (.iaload, 1) := by decide +kernel
theorem dX7_fact_49 : decode cX7_fact 49 = .ok (.ireturn, 1) := by decide +kernel
theorem dX7_fact_50 : decode cX7_fact 50 = .ok (.aload_n 0, 1) := by decide +kernel
theorem dX7_fact_51 : decode cX7_fact 51 = .ok (.getfield 18, 3) := by decide +kernel
theorem dX7_fact_54 : decode cX7_fact 54 = .ok (.iload_n 1, 1) := by decide +kernel
theorem dX7_fact_55 : decode cX7_fact 55 = .ok (.iaload, 1) := by decide +kernel
theorem dX7_fact_56 : decode cX7_fact 56 = .ok (.ireturn, 1) := by decide +kernel
theorem dX7_fact_57 : decode cX7_fact 57 = .ok (.aload_n 0, 1) := by decide +kernel
theorem dX7_fact_58 : decode cX7_fact 58 = .ok (.getfield 21, 3) := by decide +kernel
theorem dX7_fact_61 : decode cX7_fact 61 = .ok (.iload_n 1, 1) := by decide +kernel
theorem dX7_fact_62 : decode cX7_fact 62 = .ok (.iaload, 1) := by decide +kernel
theorem dX7_fact_63 : decode cX7_fact 63 = .ok (.ireturn, 1) := by decide +kernel
theorem dX8_init_0 : decode cX8_init 0 = .ok (.aload_n 0, 1) := by decide +kernel
theorem dX8_init_1 : decode cX8_init 1 = .ok (.invokespecial 3, 3) := by decide +kernel
theorem dX8_init_4 : decode cX8_init 4 = .ok (.aload_n 0, 1) := by decide +kernel
theorem dX8_init_5 : decode cX8_init 5 = .ok (.sipush 1500, 3) := by decide +kernel
theorem dX8_init_8 : decode cX8_init 8 = .ok (.newarray .byte, 2) := by decide +kernel
theorem dX8_init_10 : decode cX8_init 10 = .ok (.putfield 11, 3) := by decide +kernel
theorem dX8_init_13 : decode cX8_init 13 = .ok (.return_, 1) := by decide +kernel
theorem dX8_append_0 : decode cX8_append 0 = .ok (.bipush 24, 2) := by decide +kernel
theorem dX8_append_2 : decode cX8_append 2 = .ok (.istore_n 2, 1) := by decide +kernel
theorem dX8_append_3 : decode cX8_append 3 = .ok (.iload_n 2, 1) := by decide +kernel
theorem dX8_append_4 : decode cX8_append 4 = .ok (.ifCond .lt 49, 3) := by decide +kernel
theorem dX8_append_7 : decode cX8_append 7 = .ok (.aload_n 0, 1) := by decide +kernel
theorem dX8_append_8 : decode cX8_append 8 = .ok (.getfield 15, 3) := by decide +kernel
theorem dX8_append_11 : decode cX8_append 11 = .ok (.ifCond .lt 36, 3) := by decide +kernel
theorem dX8_append_14 : decode cX8_append 14 = .ok (.aload_n 0, 1) := by decide +kernel
theorem dX8_append_15 : decode cX8_append 15 = .ok (.getfield 15, 3) := by decide +kernel
theorem dX8_append_18 : decode cX8_append 18 = .ok (.sipush 1500, 3) := by decide +kernel
theorem dX8_append_21 : decode cX8_append 21 = .ok (.if_icmp .ge 26, 3) := by decide +kernel
theorem dX8_append_24 : decode cX8_append 24 = .ok (.aload_n 0, 1) := by decide +kernel
theorem dX8_append_25 : decode cX8_append 25 = .ok (.getfield 11, 3) := by decide +kernel
theorem dX8_append_28 : decode cX8_append 28 = .ok (.aload_n 0, 1) := by decide +kernel
theorem dX8_append_29 : decode cX8_append 29 = .ok (.getfield 15, 3) := by decide +kernel
theorem dX8_append_32 : decode cX8_append 32 = .ok (.iload_n 1, 1) := by decide +kernel
theorem dX8_append_33 : decode cX8_append 33 = .ok (.iload_n 2, 1) := by decide +kernel
theorem dX8_append_34 : decode cX8_append 34 = .ok (.ishr, 1) := by decide +kernel
theorem dX8_append_35 : decode cX8_append 35 = .ok (.i2b, 1) := by decide +kernel
theorem dX8_append_36 : decode cX8_append 36 = .ok (.bastore, 1) := by decide +kernel
theorem dX8_append_37 : decode cX8_append 37 = .ok (.aload_n 0, 1) := by decide +kernel
theorem dX8_append_38 : decode cX8_append 38 = .ok (.dup, 1) := by decide +kernel
theorem dX8_append_39 : decode cX8_append 39 = .ok (.getfield 15, 3) := by decide +kernel
theorem dX8_append_42 : decode cX8_append 42 = .ok (.iconst 1, 1) := by decide +kernel
theorem dX8_append_43 : decode cX8_append 43 = .ok (.iadd, 1) := by decide +kernel
theorem dX8_append_44 : decode cX8_append 44 = .ok (.putfield 15, 3) := by decide +kernel
theorem dX8_append_47 : decode cX8_append 47 = .ok (.iinc 2 (-8), 3) := by decide +kernel
theorem dX8_append_50 : decode cX8_append 50 = .ok (.goto (-47), 3) := by decide +kernel
theorem dX8_append_53 : decode cX8_append 53 = .ok (.return_, 1) := by decide +kernel
theorem dX8_shorten_0 : decode cX8_shorten 0 = .ok (.iload_n 1, 1) := by decide +kernel
theorem dX8_shorten_1 : decode cX8_shorten 1 = .ok (.ifCond .lt 16, 3) := by decide +kernel
theorem dX8_shorten_4 : decode cX8_shorten 4 = .ok (.iload_n 1, 1) := by decide +kernel
theorem dX8_shorten_5 : decode cX8_shorten 5 = .ok (.aload_n 0, 1) := by decide +kernel
theorem dX8_shorten_6 : decode cX8_shorten 6 = .ok (.getfield 15, 3) := by decide +kernel
theorem dX8_shorten_9 : decode cX8_shorten 9 = .ok (.if_icmp .ge 8, 3) := by decide +kernel
theorem dX8_shorten_12 : decode cX8_shorten 12 = .ok (.aload_n 0, 1) := by decide +kernel
theorem dX8_shorten_13 : decode cX8_shorten 13 = .ok (.iload_n 1, 1) := by decide +kernel
theorem dX8_shorten_14 : decode cX8_shorten 14 = .ok (.putfield 15, 3) := by decide +kernel
theorem dX8_shorten_17 : decode cX8_shorten 17 = .ok (.return_, 1) := by decide +kernel
theorem dX8_byteAt_0 : decode cX8_byteAt 0 = .ok (.iload_n 1, 1) := by decide +kernel
theorem dX8_byteAt_1 : decode cX8_byteAt 1 = .ok (.ifCond .lt 31, 3) := by decide +kernel
theorem dX8_byteAt_4 : decode cX8_byteAt 4 = .ok (.iload_n 1, 1) := by decide +kernel
theorem dX8_byteAt_5 : decode cX8_byteAt 5 = .ok (.aload_n 0, 1) := by decide +kernel
theorem dX8_byteAt_6 : decode cX8_byteAt 6 = .ok (.getfield 15, 3) := by decide +kernel
theorem dX8_byteAt_9 : decode cX8_byteAt 9 = .ok (.if_icmp .ge 23, 3) := by decide +kernel
theorem dX8_byteAt_12 : decode cX8_byteAt 12 = .ok (.iload_n 1, 1) := by decide +kernel
theorem dX8_byteAt_13 : decode cX8_byteAt 13 = .ok (.sipush 1500, 3) := by decide +kernel
theorem dX8_byteAt_16 : decode cX8_byteAt 16 = .ok (.if_icmp .ge 16, 3) := by decide +kernel
theorem dX8_byteAt_19 : decode cX8_byteAt 19 = .ok (.aload_n 0, 1) := by decide +kernel
theorem dX8_byteAt_20 : decode cX8_byteAt 20 = .ok (.getfield 11, 3) := by decide +kernel
theorem dX8_byteAt_23 : decode cX8_byteAt 23 = .ok (.iload_n 1, 1) := by decide +kernel
theorem dX8_byteAt_24 : decode cX8_byteAt 24 = .ok (.baload, 1) := by decide +kernel
theorem dX8_byteAt_25 : decode cX8_byteAt 25 = .ok (.sipush 255, 3) := by decide +kernel
theorem dX8_byteAt_28 : decode cX8_byteAt 28 = .ok (.iand, 1) := by decide +kernel
theorem dX8_byteAt_29 : decode cX8_byteAt 29 = .ok (.goto 4, 3) := by decide +kernel
theorem dX8_byteAt_32 : decode cX8_byteAt 32 = .ok (.iconst (-1), 1) := by decide +kernel
theorem dX8_byteAt_33 : decode cX8_byteAt 33 = .ok (.ireturn, 1) := by decide +kernel
theorem dX9_init_0 : decode cX9_init 0 = .ok (.aload_n 0, 1) := by decide +kernel
theorem dX9_init_1 : decode cX9_init 1 = .ok (.invokespecial 5, 3) := by decide +kernel
theorem dX9_init_4 : decode cX9_init 4 = .ok (.aload_n 0, 1) := by decide +kernel
theorem dX9_init_5 : decode cX9_init 5 = .ok (.bipush 17, 2) := by decide +kernel
theorem dX9_init_7 : decode cX9_init 7 = .ok (.newarray .long, 2) := by decide +kernel
theorem dX9_init_9 : decode cX9_init 9 = .ok (.putfield 13, 3) := by decide +kernel
theorem dX9_init_12 : decode cX9_init 12 = .ok (.aload_n 0, 1) := by decide +kernel
theorem dX9_init_13 : decode cX9_init 13 = .ok (.sipush 1501, 3) := by decide +kernel
theorem dX9_init_16 : decode cX9_init 16 = .ok (.newarray .int, 2) := by decide +kernel
theorem dX9_init_18 : decode cX9_init 18 = .ok (.putfield 17, 3) := by decide +kernel
theorem dX9_init_21 : decode cX9_init 21 = .ok (.aload_n 0, 1) := by decide +kernel
theorem dX9_init_22 : decode cX9_init 22 = .ok (.sipush 1501, 3) := by decide +kernel
theorem dX9_init_25 : decode cX9_init 25 = .ok (.newarray .int, 2) := by decide +kernel
theorem dX9_init_27 : decode cX9_init 27 = .ok (.putfield 21, 3) := by decide +kernel
theorem dX9_init_30 : decode cX9_init 30 = .ok (.aload_n 0, 1) := by decide +kernel
theorem dX9_init_31 : decode cX9_init 31 = .ok (.sipush 1501, 3) := by decide +kernel
theorem dX9_init_34 : decode cX9_init 34 = .ok (.newarray .long, 2) := by decide +kernel
theorem dX9_init_36 : decode cX9_init 36 = .ok (.putfield 24, 3) := by decide +kernel
theorem dX9_init_39 : decode cX9_init 39 = .ok (.iconst 0, 1) := by decide +kernel
theorem dX9_init_40 : decode cX9_init 40 = .ok (.istore_n 1, 1) := by decide +kernel
theorem dX9_init_41 : decode cX9_init 41 = .ok (.lconst 0, 1) := by decide +kernel
theorem dX9_init_42 : decode cX9_init 42 = .ok (.lstore_n 2, 1) := by decide +kernel
theorem dX9_init_43 : decode cX9_init 43 = .ok (.iconst 0, 1) := by decide +kernel
theorem dX9_init_44 : decode cX9_init 44 = .ok (.istore 4, 2) := by decide +kernel
theorem dX9_init_46 : decode cX9_init 46 = .ok (.iload 4, 2) := by decide +kernel
theorem dX9_init_48 : decode cX9_init 48 = .ok (.ldc 27, 2) := by decide +kernel
theorem dX9_init_50 : decode cX9_init 50 = .ok (.invokevirtual 29, 3) := by decide +kernel
theorem dX9_init_53 : decode cX9_init 53 = .ok (.if_icmp .ge 53, 3) := by decide +kernel
theorem dX9_init_56 : decode cX9_init 56 = .ok (.ldc 27, 2) := by decide +kernel
theorem dX9_init_58 : decode cX9_init 58 = .ok (.iload 4, 2) := by decide +kernel
theorem dX9_init_60 : decode cX9_init 60 = .ok (.invokevirtual 35, 3) := by decide +kernel
theorem dX9_init_63 : decode cX9_init 63 = .ok (.istore 5, 2) := by decide +kernel
theorem dX9_init_65 : decode cX9_init 65 = .ok (.iload 5, 2) := by decide +kernel
theorem dX9_init_67 : decode cX9_init 67 = .ok (.bipush 32, 2) := by decide +kernel
theorem dX9_init_69 : decode cX9_init 69 = .ok (.if_icmp .eq 13, 3) := by decide +kernel
theorem dX9_init_72 : decode cX9_init 72 = .ok (.lload_n 2, 1) := by decide +kernel
theorem dX9_init_73 : decode cX9_init 73 = .ok (.iload 5, 2) := by decide +kernel
theorem dX9_init_75 : decode cX9_init 75 = .ok (.invokestatic 39, 3) := by decide +kernel
theorem dX9_init_78 : decode cX9_init 78 = .ok (.lstore_n 2, 1) := by decide +kernel
theorem dX9_init_79 : decode cX9_init 79 = .ok (.goto 21, 3) := by decide +kernel
theorem dX9_init_82 : decode cX9_init 82 = .ok (.iload_n 1, 1) := by decide +kernel
theorem dX9_init_83 : decode cX9_init 83 = .ok (.bipush 17, 2) := by decide +kernel
theorem dX9_init_85 : decode cX9_init 85 = .ok (.if_icmp .ge 15, 3) := by decide +kernel
theorem dX9_init_88 : decode cX9_init 88 = .ok (.aload_n 0, 1) := by decide +kernel
theorem dX9_init_89 : decode cX9_init 89 = .ok (.getfield 13, 3) := by decide +kernel
theorem dX9_init_92 : decode cX9_init 92 = .ok (.iload_n 1, 1) := by decide +kernel
theorem dX9_init_93 : decode cX9_init 93 = .ok (.lload_n 2, 1) := by decide +kernel
theorem dX9_init_94 : decode cX9_init 94 = .ok (.lastore, 1) := by decide +kernel
theorem dX9_init_95 : decode cX9_init 95 = .ok (.iinc 1 1, 3) := by decide +kernel
theorem dX9_init_98 : decode cX9_init 98 = .ok (.lconst 0, 1) := by decide +kernel
theorem dX9_init_99 : decode cX9_init 99 = .ok (.lstore_n 2, 1) := by decide +kernel
theorem dX9_init_100 : decode cX9_init 100 = .ok (.iinc 4 1, 3) := by decide +kernel
theorem dX9_init_103 : decode cX9_init 103 = .ok (.goto (-57), 3) := by decide +kernel
theorem dX9_init_106 : decode cX9_init 106 = .ok (.return_, 1) := by decide +kernel
theorem dX9_read_0 : decode cX9_read 0 = .ok (.aload_n 0, 1) := by decide +kernel
theorem dX9_read_1 : decode cX9_read 1 = .ok (.iconst 0, 1) := by decide +kernel
theorem dX9_read_2 : decode cX9_read 2 = .ok (.putfield 43, 3) := by decide +kernel
theorem dX9_read_5 : decode cX9_read 5 = .ok (.iconst 0, 1) := by decide +kernel
theorem dX9_read_6 : decode cX9_read 6 = .ok (.istore_n 2, 1) := by decide +kernel
theorem dX9_read_7 : decode cX9_read 7 = .ok (.iconst 0, 1) := by decide +kernel
theorem dX9_read_8 : decode cX9_read 8 = .ok (.istore_n 3, 1) := by decide +kernel
theorem dX9_read_9 : decode cX9_read 9 = .ok (.iload_n 3, 1) := by decide +kernel
theorem dX9_read_10 : decode cX9_read 10 = .ok (.sipush 1500, 3) := by decide +kernel
theorem dX9_read_13 : decode cX9_read 13 = .ok (.if_icmp .ge 24, 3) := by decide +kernel
theorem dX9_read_16 : decode cX9_read 16 = .ok (.iload_n 2, 1) := by decide +kernel
theorem dX9_read_17 : decode cX9_read 17 = .ok (.aload_n 1, 1) := by decide +kernel
theorem dX9_read_18 : decode cX9_read 18 = .ok (.getfield 47, 3) := by decide +kernel
theorem dX9_read_21 : decode cX9_read 21 = .ok (.if_icmp .ge 16, 3) := by decide +kernel
theorem dX9_read_24 : decode cX9_read 24 = .ok (.aload_n 0, 1) := by decide +kernel
theorem dX9_read_25 : decode cX9_read 25 = .ok (.aload_n 1, 1) := by decide +kernel
theorem dX9_read_26 : decode cX9_read 26 = .ok (.iload_n 2, 1) := by decide +kernel
theorem dX9_read_27 : decode cX9_read 27 = .ok (.invokevirtual 49, 3) := by decide +kernel
theorem dX9_read_30 : decode cX9_read 30 = .ok (.istore_n 2, 1) := by decide +kernel
theorem dX9_read_31 : decode cX9_read 31 = .ok (.iinc 3 1, 3) := by decide +kernel
theorem dX9_read_34 : decode cX9_read 34 = .ok (.goto (-25), 3) := by decide +kernel
theorem dX9_read_37 : decode cX9_read 37 = .ok (.aload_n 0, 1) := by decide +kernel
theorem dX9_read_38 : decode cX9_read 38 = .ok (.bipush 25, 2) := by decide +kernel
theorem dX9_read_40 : decode cX9_read 40 = .ok (.aload_n 1, 1) := by decide +kernel
theorem dX9_read_41 : decode cX9_read 41 = .ok (.getfield 47, 3) := by decide +kernel
theorem dX9_read_44 : decode cX9_read 44 = .ok (.lconst 0, 1) := by decide +kernel
theorem dX9_read_45 : decode cX9_read 45 = .ok (.invokevirtual 53, 3) := by decide +kernel
theorem dX9_read_48 : decode cX9_read 48 = .ok (.return_, 1) := by decide +kernel
theorem dX9_kindOf_0 : decode cX9_kindOf 0 = .ok (.iload_n 1, 1) := by decide +kernel
theorem dX9_kindOf_1 : decode cX9_kindOf 1 = .ok (.ifCond .lt 27, 3) := by decide +kernel
theorem dX9_kindOf_4 : decode cX9_kindOf 4 = .ok (.iload_n 1, 1) := by decide +kernel
theorem dX9_kindOf_5 : decode cX9_kindOf 5 = .ok (.aload_n 0, 1) := by decide +kernel
theorem dX9_kindOf_6 : decode cX9_kindOf 6 = .ok (.getfield 43, 3) := by decide +kernel
theorem dX9_kindOf_9 : decode cX9_kindOf 9 = .ok (.if_icmp .ge 19, 3) := by decide +kernel
theorem dX9_kindOf_12 : decode cX9_kindOf 12 = .ok (.iload_n 1, 1) := by decide +kernel
theorem dX9_kindOf_13 : decode cX9_kindOf 13 = .ok (.sipush 1501, 3) := by decide +kernel
theorem dX9_kindOf_16 : decode cX9_kindOf 16 = .ok (.if_icmp .ge 12, 3) := by decide +kernel
theorem dX9_kindOf_19 : decode cX9_kindOf 19 = .ok (.aload_n 0, 1) := by decide +kernel
theorem dX9_kindOf_20 : decode cX9_kindOf 20 = .ok (.getfield 17, 3) := by decide +kernel
theorem dX9_kindOf_23 : decode cX9_kindOf 23 = .ok (.iload_n 1, 1) := by decide +kernel
theorem dX9_kindOf_24 : decode cX9_kindOf 24 = .ok (.iaload, 1) := by decide +kernel
theorem dX9_kindOf_25 : decode cX9_kindOf 25 = .ok (.goto 5, 3) := by decide +kernel
theorem dX9_kindOf_28 : decode cX9_kindOf 28 = .ok (.bipush 25, 2) := by decide +kernel
theorem dX9_kindOf_30 : decode cX9_kindOf 30 = .ok (.ireturn, 1) := by decide +kernel
theorem dX9_startOf_0 : decode cX9_startOf 0 = .ok (.iload_n 1, 1) := by decide +kernel
theorem dX9_startOf_1 : decode cX9_startOf 1 = .ok (.ifCond .lt 27, 3) := by decide +kernel
theorem dX9_startOf_4 : decode cX9_startOf 4 = .ok (.iload_n 1, 1) := by decide +kernel
theorem dX9_startOf_5 : decode cX9_startOf 5 = .ok (.aload_n 0, 1) := by decide +kernel
theorem dX9_startOf_6 : decode cX9_startOf 6 = .ok (.getfield 43, 3) := by decide +kernel
theorem dX9_startOf_9 : decode cX9_startOf 9 = .ok (.if_icmp .ge 19, 3) := by decide +kernel
theorem dX9_startOf_12 : decode cX9_startOf 12 = .ok (.iload_n 1, 1) := by decide +kernel
theorem dX9_startOf_13 : decode cX9_startOf 13 = .ok (.sipush 1501, 3) := by decide +kernel
theorem dX9_startOf_16 : decode cX9_startOf 16 = .ok (.if_icmp .ge 12, 3) := by decide +kernel
theorem dX9_startOf_19 : decode cX9_startOf 19 = .ok (.aload_n 0, 1) := by decide +kernel
theorem dX9_startOf_20 : decode cX9_startOf 20 = .ok (.getfield 21, 3) := by decide +kernel
theorem dX9_startOf_23 : decode cX9_startOf 23 = .ok (.iload_n 1, 1) := by decide +kernel
theorem dX9_startOf_24 : decode cX9_startOf 24 = .ok (.iaload, 1) := by decide +kernel
theorem dX9_startOf_25 : decode cX9_startOf 25 = .ok (.goto 4, 3) := by decide +kernel
theorem dX9_startOf_28 : decode cX9_startOf 28 = .ok (.iconst (-1), 1) := by decide +kernel
theorem dX9_startOf_29 : decode cX9_startOf 29 = .ok (.ireturn, 1) := by decide +kernel
theorem dX9_valueOf_0 : decode cX9_valueOf 0 = .ok (.iload_n 1, 1) := by decide +kernel
theorem dX9_valueOf_1 : decode cX9_valueOf 1 = .ok (.ifCond .lt 27, 3) := by decide +kernel
theorem dX9_valueOf_4 : decode cX9_valueOf 4 = .ok (.iload_n 1, 1) := by decide +kernel
theorem dX9_valueOf_5 : decode cX9_valueOf 5 = .ok (.aload_n 0, 1) := by decide +kernel
theorem dX9_valueOf_6 : decode cX9_valueOf 6 = .ok (.getfield 43, 3) := by decide +kernel
theorem dX9_valueOf_9 : decode cX9_valueOf 9 = .ok (.if_icmp .ge 19, 3) := by decide +kernel
theorem dX9_valueOf_12 : decode cX9_valueOf 12 = .ok (.iload_n 1, 1) := by decide +kernel
theorem dX9_valueOf_13 : decode cX9_valueOf 13 = .ok (.sipush 1501, 3) := by decide +kernel
theorem dX9_valueOf_16 : decode cX9_valueOf 16 = .ok (.if_icmp .ge 12, 3) := by decide +kernel
theorem dX9_valueOf_19 : decode cX9_valueOf 19 = .ok (.aload_n 0, 1) := by decide +kernel
theorem dX9_valueOf_20 : decode cX9_valueOf 20 = .ok (.getfield 24, 3) := by decide +kernel
theorem dX9_valueOf_23 : decode cX9_valueOf 23 = .ok (.iload_n 1, 1) := by decide +kernel
theorem dX9_valueOf_24 : decode cX9_valueOf 24 = .ok (.laload, 1) := by decide +kernel
theorem dX9_valueOf_25 : decode cX9_valueOf 25 = .ok (.goto 4, 3) := by decide +kernel
theorem dX9_valueOf_28 : decode cX9_valueOf 28 = .ok (.lconst 0, 1) := by decide +kernel
theorem dX9_valueOf_29 : decode cX9_valueOf 29 = .ok (.lreturn, 1) := by decide +kernel
theorem dX9_readAt_0 : decode cX9_readAt 0 = .ok (.aload_n 1, 1) := by decide +kernel
theorem dX9_readAt_1 : decode cX9_readAt 1 = .ok (.iload_n 2, 1) := by decide +kernel
theorem dX9_readAt_2 : decode cX9_readAt 2 = .ok (.invokevirtual 57, 3) := by decide +kernel
theorem dX9_readAt_5 : decode cX9_readAt 5 = .ok (.istore_n 3, 1) := by decide +kernel
theorem dX9_readAt_6 : decode cX9_readAt 6 = .ok (.iload_n 3, 1) := by decide +kernel
theorem dX9_readAt_7 : decode cX9_readAt 7 = .ok (.bipush 32, 2) := by decide +kernel
theorem dX9_readAt_9 : decode cX9_readAt 9 = .ok (.if_icmp .eq 9, 3) := by decide +kernel
theorem dX9_readAt_12 : decode cX9_readAt 12 = .ok (.iload_n 3, 1) := by decide +kernel
theorem dX9_readAt_13 : decode cX9_readAt 13 = .ok (.bipush 10, 2) := by decide +kernel
theorem dX9_readAt_15 : decode cX9_readAt 15 = .ok (.if_icmp .ne 7, 3) := by decide +kernel
theorem dX9_readAt_18 : decode cX9_readAt 18 = .ok (.iload_n 2, 1) := by decide +kernel
theorem dX9_readAt_19 : decode cX9_readAt 19 = .ok (.iconst 1, 1) := by decide +kernel
theorem dX9_readAt_20 : decode cX9_readAt 20 = .ok (.iadd, 1) := by decide +kernel
theorem dX9_readAt_21 : decode cX9_readAt 21 = .ok (.ireturn, 1) := by decide +kernel
theorem dX9_readAt_22 : decode cX9_readAt 22 = .ok (.iload_n 3, 1) := by decide +kernel
theorem dX9_readAt_23 : decode cX9_readAt 23 = .ok (.invokestatic 61, 3) := by decide +kernel
theorem dX9_readAt_26 : decode cX9_readAt 26 = .ok (.ifCond .eq 10, 3) := by decide +kernel
theorem dX9_readAt_29 : decode cX9_readAt 29 = .ok (.aload_n 0, 1) := by decide +kernel
theorem dX9_readAt_30 : decode cX9_readAt 30 = .ok (.aload_n 1, 1) := by decide +kernel
theorem dX9_readAt_31 : decode cX9_readAt 31 = .ok (.iload_n 2, 1) := by decide +kernel
theorem dX9_readAt_32 : decode cX9_readAt 32 = .ok (.invokevirtual 65, 3) := by decide +kernel
theorem dX9_readAt_35 : decode cX9_readAt 35 = .ok (.ireturn, 1) := by decide +kernel
theorem dX9_readAt_36 : decode cX9_readAt 36 = .ok (.iload_n 3, 1) := by decide +kernel
theorem dX9_readAt_37 : decode cX9_readAt 37 = .ok (.invokestatic 68, 3) := by decide +kernel
theorem dX9_readAt_40 : decode cX9_readAt 40 = .ok (.ifCond .eq 10, 3) := by decide +kernel
theorem dX9_readAt_43 : decode cX9_readAt 43 = .ok (.aload_n 0, 1) := by decide +kernel
theorem dX9_readAt_44 : decode cX9_readAt 44 = .ok (.aload_n 1, 1) := by decide +kernel
theorem dX9_readAt_45 : decode cX9_readAt 45 = .ok (.iload_n 2, 1) := by decide +kernel
theorem dX9_readAt_46 : decode cX9_readAt 46 = .ok (.invokevirtual 71, 3) := by decide +kernel
theorem dX9_readAt_49 : decode cX9_readAt 49 = .ok (.ireturn, 1) := by decide +kernel
theorem dX9_readAt_50 : decode cX9_readAt 50 = .ok (.ldc 74, 2) := by decide +kernel
theorem dX9_readAt_52 : decode cX9_readAt 52 = .ok (.iload_n 3, 1) := by decide +kernel
theorem dX9_readAt_53 : decode cX9_readAt 53 = .ok (.i2c, 1) := by decide +kernel
theorem dX9_readAt_54 : decode cX9_readAt 54 = .ok (.invokevirtual 76, 3) := by decide +kernel
theorem dX9_readAt_57 : decode cX9_readAt 57 = .ok (.istore 4, 2) := by decide +kernel
theorem dX9_readAt_59 : decode cX9_readAt 59 = .ok (.aload_n 0, 1) := by decide +kernel
theorem dX9_readAt_60 : decode cX9_readAt 60 = .ok (.iload 4, 2) := by decide +kernel
theorem dX9_readAt_62 : decode cX9_readAt 62 = .ok (.ifCond .lt 11, 3) := by decide +kernel
theorem dX9_readAt_65 : decode cX9_readAt 65 = .ok (.bipush 17, 2) := by decide +kernel
theorem dX9_readAt_67 : decode cX9_readAt 67 = .ok (.iload 4, 2) := by decide +kernel
theorem dX9_readAt_69 : decode cX9_readAt 69 = .ok (.iadd, 1) := by decide +kernel
theorem dX9_readAt_70 : decode cX9_readAt 70 = .ok (.goto 5, 3) := by decide +kernel
theorem dX9_readAt_73 : decode cX9_readAt 73 = .ok (.bipush 24, 2) := by decide +kernel
theorem dX9_readAt_75 : decode cX9_readAt 75 = .ok (.iload_n 2, 1) := by decide +kernel
theorem dX9_readAt_76 : decode cX9_readAt 76 = .ok (.lconst 0, 1) := by decide +kernel
theorem dX9_readAt_77 : decode cX9_readAt 77 = .ok (.invokevirtual 53, 3) := by decide +kernel
theorem dX9_readAt_80 : decode cX9_readAt 80 = .ok (.iload_n 2, 1) := by decide +kernel
theorem dX9_readAt_81 : decode cX9_readAt 81 = .ok (.iconst 1, 1) := by decide +kernel
theorem dX9_readAt_82 : decode cX9_readAt 82 = .ok (.iadd, 1) := by decide +kernel
theorem dX9_readAt_83 : decode cX9_readAt 83 = .ok (.ireturn, 1) := by decide +kernel
theorem dX9_readWord_0 : decode cX9_readWord 0 = .ok (.lconst 0, 1) := by decide +kernel
theorem dX9_readWord_1 : decode cX9_readWord 1 = .ok (.lstore_n 3, 1) := by decide +kernel
theorem dX9_readWord_2 : decode cX9_readWord 2 = .ok (.iload_n 2, 1) := by decide +kernel
theorem dX9_readWord_3 : decode cX9_readWord 3 = .ok (.istore 5, 2) := by decide +kernel
theorem dX9_readWord_5 : decode cX9_readWord 5 = .ok (.iload 5, 2) := by decide +kernel
theorem dX9_readWord_7 : decode cX9_readWord 7 = .ok (.sipush 1500, 3) := by decide +kernel
theorem dX9_readWord_10 : decode cX9_readWord 10 = .ok (.if_icmp .ge 32, 3) := by decide +kernel
theorem dX9_readWord_13 : decode cX9_readWord 13 = .ok (.aload_n 1, 1) := by decide +kernel
theorem dX9_readWord_14 : decode cX9_readWord 14 = .ok (.iload 5, 2) := by decide +kernel
theorem dX9_readWord_16 : decode cX9_readWord 16 = .ok (.invokevirtual 57, 3) := by decide +kernel
theorem dX9_readWord_19 : decode cX9_readWord 19 = .ok (.invokestatic 61, 3) := by decide +kernel
theorem dX9_readWord_22 : decode cX9_readWord 22 = .ok (.ifCond .eq 20, 3) := by decide +kernel
theorem dX9_readWord_25 : decode cX9_readWord 25 = .ok (.lload_n 3, 1) := by decide +kernel
theorem dX9_readWord_26 : decode cX9_readWord 26 = .ok (.aload_n 1, 1) := by decide +kernel
theorem dX9_readWord_27 : decode cX9_readWord 27 = .ok (.iload 5, 2) := by decide +kernel
theorem dX9_readWord_29 : decode cX9_readWord 29 = .ok (.invokevirtual 57, 3) := by decide +kernel
theorem dX9_readWord_32 : decode cX9_readWord 32 = .ok (.invokestatic 39, 3) := by decide +kernel
theorem dX9_readWord_35 : decode cX9_readWord 35 = .ok (.lstore_n 3, 1) := by decide +kernel
theorem dX9_readWord_36 : decode cX9_readWord 36 = .ok (.iinc 5 1, 3) := by decide +kernel
theorem dX9_readWord_39 : decode cX9_readWord 39 = .ok (.goto (-34), 3) := by decide +kernel
theorem dX9_readWord_42 : decode cX9_readWord 42 = .ok (.aload_n 0, 1) := by decide +kernel
theorem dX9_readWord_43 : decode cX9_readWord 43 = .ok (.iload 5, 2) := by decide +kernel
theorem dX9_readWord_45 : decode cX9_readWord 45 = .ok (.iload_n 2, 1) := by decide +kernel
theorem dX9_readWord_46 : decode cX9_readWord 46 = .ok (.isub, 1) := by decide +kernel
theorem dX9_readWord_47 : decode cX9_readWord 47 = .ok (.bipush 10, 2) := by decide +kernel
theorem dX9_readWord_49 : decode cX9_readWord 49 = .ok (.if_icmp .gt 11, 3) := by decide +kernel
theorem dX9_readWord_52 : decode cX9_readWord 52 = .ok (.aload_n 0, 1) := by decide +kernel
theorem dX9_readWord_53 : decode cX9_readWord 53 = .ok (.lload_n 3, 1) := by decide +kernel
theorem dX9_readWord_54 : decode cX9_readWord 54 = .ok (.invokevirtual 79, 3) := by decide +kernel
theorem dX9_readWord_57 : decode cX9_readWord 57 = .ok (.goto 5, 3) := by decide +kernel
theorem dX9_readWord_60 : decode cX9_readWord 60 = .ok (.bipush 24, 2) := by decide +kernel
theorem dX9_readWord_62 : decode cX9_readWord 62 = .ok (.iload_n 2, 1) := by decide +kernel
theorem dX9_readWord_63 : decode cX9_readWord 63 = .ok (.lload_n 3, 1) := by decide +kernel
theorem dX9_readWord_64 : decode cX9_readWord 64 = .ok (.invokevirtual 53, 3) := by decide +kernel
theorem dX9_readWord_67 : decode cX9_readWord 67 = .ok (.iload 5, 2) := by decide +kernel
theorem dX9_readWord_69 : decode cX9_readWord 69 = .ok (.ireturn, 1) := by decide +kernel
theorem dX9_readNumber_0 : decode cX9_readNumber 0 = .ok (.lconst 0, 1) := by decide +kernel
theorem dX9_readNumber_1 : decode cX9_readNumber 1 = .ok (.lstore_n 3, 1) := by decide +kernel
theorem dX9_readNumber_2 : decode cX9_readNumber 2 = .ok (.iload_n 2, 1) := by decide +kernel
theorem dX9_readNumber_3 : decode cX9_readNumber 3 = .ok (.istore 5, 2) := by decide +kernel
theorem dX9_readNumber_5 : decode cX9_readNumber 5 = .ok (.iload 5, 2) := by decide +kernel
theorem dX9_readNumber_7 : decode cX9_readNumber 7 = .ok (.sipush 1500, 3) := by decide +kernel
theorem dX9_readNumber_10 : decode cX9_readNumber 10 = .ok (.if_icmp .ge 39, 3) := by decide +kernel
theorem dX9_readNumber_13 : decode cX9_readNumber 13 = .ok (.aload_n 1, 1) := by decide +kernel
theorem dX9_readNumber_14 : decode cX9_readNumber 14 = .ok (.iload 5, 2) := by decide +kernel
theorem dX9_readNumber_16 : decode cX9_readNumber 16 = .ok (.invokevirtual 57, 3) := by decide +kernel
theorem dX9_readNumber_19 : decode cX9_readNumber 19 = .ok (.invokestatic 68, 3) := by decide +kernel
theorem dX9_readNumber_22 : decode cX9_readNumber 22 = .ok (.ifCond .eq 27, 3) := by decide +kernel
theorem dX9_readNumber_25 : decode cX9_readNumber 25 = .ok (.lload_n 3, 1) := by decide +kernel
theorem dX9_readNumber_26 : decode cX9_readNumber 26 = .ok (.ldc2_w 83, 3) := by decide +kernel
theorem dX9_readNumber_29 : decode cX9_readNumber 29 = .ok (.lmul, 1) := by decide +kernel
theorem dX9_readNumber_30 : decode cX9_readNumber 30 = .ok (.aload_n 1, 1) := by decide +kernel
theorem dX9_readNumber_31 : decode cX9_readNumber 31 = .ok (.iload 5, 2) := by decide +kernel
theorem dX9_readNumber_33 : decode cX9_readNumber 33 = .ok (.invokevirtual 57, 3) := by decide +kernel
theorem dX9_readNumber_36 : decode cX9_readNumber 36 = .ok (.i2l, 1) := by decide +kernel
theorem dX9_readNumber_37 : decode cX9_readNumber 37 = .ok (.ladd, 1) := by decide +kernel
theorem dX9_readNumber_38 : decode cX9_readNumber 38 = .ok (.ldc2_w 85, 3) := by decide +kernel
theorem dX9_readNumber_41 : decode cX9_readNumber 41 = .ok (.lsub, 1) := by decide +kernel
theorem dX9_readNumber_42 : decode cX9_readNumber 42 = .ok (.lstore_n 3, 1) := by decide +kernel
theorem dX9_readNumber_43 : decode cX9_readNumber 43 = .ok (.iinc 5 1, 3) := by decide +kernel
theorem dX9_readNumber_46 : decode cX9_readNumber 46 = .ok (.goto (-41), 3) := by decide +kernel
theorem dX9_readNumber_49 : decode cX9_readNumber 49 = .ok (.aload_n 0, 1) := by decide +kernel
theorem dX9_readNumber_50 : decode cX9_readNumber 50 = .ok (.iload 5, 2) := by decide +kernel
theorem dX9_readNumber_52 : decode cX9_readNumber 52 = .ok (.iload_n 2, 1) := by decide +kernel
theorem dX9_readNumber_53 : decode cX9_readNumber 53 = .ok (.isub, 1) := by decide +kernel
theorem dX9_readNumber_54 : decode cX9_readNumber 54 = .ok (.iconst 4, 1) := by decide +kernel
theorem dX9_readNumber_55 : decode cX9_readNumber 55 = .ok (.if_icmp .gt 8, 3) := by decide +kernel
theorem dX9_readNumber_58 : decode cX9_readNumber 58 = .ok (.bipush 23, 2) := by decide +kernel
theorem dX9_readNumber_60 : decode cX9_readNumber 60 = .ok (.goto 5, 3) := by decide +kernel
theorem dX9_readNumber_63 : decode cX9_readNumber 63 = .ok (.bipush 24, 2) := by decide +kernel
theorem dX9_readNumber_65 : decode cX9_readNumber 65 = .ok (.iload_n 2, 1) := by decide +kernel
theorem dX9_readNumber_66 : decode cX9_readNumber 66 = .ok (.lload_n 3, 1) := by decide +kernel
theorem dX9_readNumber_67 : decode cX9_readNumber 67 = .ok (.invokevirtual 53, 3) := by decide +kernel
theorem dX9_readNumber_70 : decode cX9_readNumber 70 = .ok (.iload 5, 2) := by decide +kernel
theorem dX9_readNumber_72 : decode cX9_readNumber 72 = .ok (.ireturn, 1) := by decide +kernel
theorem dX9_kindOfWord_0 : decode cX9_kindOfWord 0 = .ok (.iconst 0, 1) := by decide +kernel
theorem dX9_kindOfWord_1 : decode cX9_kindOfWord 1 = .ok (.istore_n 3, 1) := by decide +kernel
theorem dX9_kindOfWord_2 : decode cX9_kindOfWord 2 = .ok (.iload_n 3, 1) := by decide +kernel
theorem dX9_kindOfWord_3 : decode cX9_kindOfWord 3 = .ok (.bipush 17, 2) := by decide +kernel
theorem dX9_kindOfWord_5 : decode cX9_kindOfWord 5 = .ok (.if_icmp .ge 22, 3) := by decide +kernel
theorem dX9_kindOfWord_8 : decode cX9_kindOfWord 8 = .ok (.aload_n 0, 1) := by decide +kernel
theorem dX9_kindOfWord_9 : decode cX9_kindOfWord 9 = .ok (.getfield 13, 3) := by decide +kernel
theorem dX9_kindOfWord_12 : decode cX9_kindOfWord 12 = .ok (.iload_n 3, 1) := by decide +kernel
theorem dX9_kindOfWord_13 : decode cX9_kindOfWord 13 = .ok (.laload, 1) := by decide +kernel
theorem dX9_kindOfWord_14 : decode cX9_kindOfWord 14 = .ok (.lload_n 1, 1) := by decide +kernel
theorem dX9_kindOfWord_15 : decode cX9_kindOfWord 15 = .ok (.lcmp, 1) := by decide +kernel
theorem dX9_kindOfWord_16 : decode cX9_kindOfWord 16 = .ok (.ifCond .ne 5, 3) := by decide +kernel
theorem dX9_kindOfWord_19 : decode cX9_kindOfWord 19 = .ok (.iload_n 3, 1) := by decide +kernel
theorem dX9_kindOfWord_20 : decode cX9_kindOfWord 20 = .ok (.ireturn, 1) := by decide +kernel
theorem dX9_kindOfWord_21 : decode cX9_kindOfWord 21 = .ok (.iinc 3 1, 3) := by decide +kernel
theorem dX9_kindOfWord_24 : decode cX9_kindOfWord 24 = .ok (.goto (-22), 3) := by decide +kernel
theorem dX9_kindOfWord_27 : decode cX9_kindOfWord 27 = .ok (.bipush 22, 2) := by decide +kernel
theorem dX9_kindOfWord_29 : decode cX9_kindOfWord 29 = .ok (.ireturn, 1) := by decide +kernel
theorem dX9_append_0 : decode cX9_append 0 = .ok (.aload_n 0, 1) := by decide +kernel
theorem dX9_append_1 : decode cX9_append 1 = .ok (.getfield 43, 3) := by decide +kernel
theorem dX9_append_4 : decode cX9_append 4 = .ok (.ifCond .lt 53, 3) := by decide +kernel
theorem dX9_append_7 : decode cX9_append 7 = .ok (.aload_n 0, 1) := by decide +kernel
theorem dX9_append_8 : decode cX9_append 8 = .ok (.getfield 43, 3) := by decide +kernel
theorem dX9_append_11 : decode cX9_append 11 = .ok (.sipush 1501, 3) := by decide +kernel
theorem dX9_append_14 : decode cX9_append 14 = .ok (.if_icmp .ge 43, 3) := by decide +kernel
theorem dX9_append_17 : decode cX9_append 17 = .ok (.aload_n 0, 1) := by decide +kernel
theorem dX9_append_18 : decode cX9_append 18 = .ok (.getfield 17, 3) := by decide +kernel
theorem dX9_append_21 : decode cX9_append 21 = .ok (.aload_n 0, 1) := by decide +kernel
theorem dX9_append_22 : decode cX9_append 22 = .ok (.getfield 43, 3) := by decide +kernel
theorem dX9_append_25 : decode cX9_append 25 = .ok (.iload_n 1, 1) := by decide +kernel
theorem dX9_append_26 : decode cX9_append 26 = .ok (.iastore, 1) := by decide +kernel
theorem dX9_append_27 : decode cX9_append 27 = .ok (.aload_n 0, 1) := by decide +kernel
theorem dX9_append_28 : decode cX9_append 28 = .ok (.getfield 21, 3) := by decide +kernel
theorem dX9_append_31 : decode cX9_append 31 = .ok (.aload_n 0, 1) := by decide +kernel
theorem dX9_append_32 : decode cX9_append 32 = .ok (.getfield 43, 3) := by decide +kernel
theorem dX9_append_35 : decode cX9_append 35 = .ok (.iload_n 2, 1) := by decide +kernel
theorem dX9_append_36 : decode cX9_append 36 = .ok (.iastore, 1) := by decide +kernel
theorem dX9_append_37 : decode cX9_append 37 = .ok (.aload_n 0, 1) := by decide +kernel
theorem dX9_append_38 : decode cX9_append 38 = .ok (.getfield 24, 3) := by decide +kernel
theorem dX9_append_41 : decode cX9_append 41 = .ok (.aload_n 0, 1) := by decide +kernel
theorem dX9_append_42 : decode cX9_append 42 = .ok (.getfield 43, 3) := by decide +kernel
theorem dX9_append_45 : decode cX9_append 45 = .ok (.lload_n 3, 1) := by decide +kernel
theorem dX9_append_46 : decode cX9_append 46 = .ok (.lastore, 1) := by decide +kernel
theorem dX9_append_47 : decode cX9_append 47 = .ok (.aload_n 0, 1) := by decide +kernel
theorem dX9_append_48 : decode cX9_append 48 = .ok (.dup, 1) := by decide +kernel
theorem dX9_append_49 : decode cX9_append 49 = .ok (.getfield 43, 3) := by decide +kernel
theorem dX9_append_52 : decode cX9_append 52 = .ok (.iconst 1, 1) := by decide +kernel
theorem dX9_append_53 : decode cX9_append 53 = .ok (.iadd, 1) := by decide +kernel
theorem dX9_append_54 : decode cX9_append 54 = .ok (.putfield 43, 3) := by decide +kernel
theorem dX9_append_57 : decode cX9_append 57 = .ok (.return_, 1) := by decide +kernel
theorem dX9_isLetter_0 : decode cX9_isLetter 0 = .ok (.iload_n 0, 1) := by decide +kernel
theorem dX9_isLetter_1 : decode cX9_isLetter 1 = .ok (.bipush 97, 2) := by decide +kernel
theorem dX9_isLetter_3 : decode cX9_isLetter 3 = .ok (.if_icmp .lt 13, 3) := by decide +kernel
theorem dX9_isLetter_6 : decode cX9_isLetter 6 = .ok (.iload_n 0, 1) := by decide +kernel
theorem dX9_isLetter_7 : decode cX9_isLetter 7 = .ok (.bipush 122, 2) := by decide +kernel
theorem dX9_isLetter_9 : decode cX9_isLetter 9 = .ok (.if_icmp .gt 7, 3) := by decide +kernel
theorem dX9_isLetter_12 : decode cX9_isLetter 12 = .ok (.iconst 1, 1) := by decide +kernel
theorem dX9_isLetter_13 : decode cX9_isLetter 13 = .ok (.goto 4, 3) := by decide +kernel
theorem dX9_isLetter_16 : decode cX9_isLetter 16 = .ok (.iconst 0, 1) := by decide +kernel
theorem dX9_isLetter_17 : decode cX9_isLetter 17 = .ok (.ireturn, 1) := by decide +kernel
theorem dX9_isDigit_0 : decode cX9_isDigit 0 = .ok (.iload_n 0, 1) := by decide +kernel
theorem dX9_isDigit_1 : decode cX9_isDigit 1 = .ok (.bipush 48, 2) := by decide +kernel
theorem dX9_isDigit_3 : decode cX9_isDigit 3 = .ok (.if_icmp .lt 13, 3) := by decide +kernel
theorem dX9_isDigit_6 : decode cX9_isDigit 6 = .ok (.iload_n 0, 1) := by decide +kernel
theorem dX9_isDigit_7 : decode cX9_isDigit 7 = .ok (.bipush 57, 2) := by decide +kernel
theorem dX9_isDigit_9 : decode cX9_isDigit 9 = .ok (.if_icmp .gt 7, 3) := by decide +kernel
theorem dX9_isDigit_12 : decode cX9_isDigit 12 = .ok (.iconst 1, 1) := by decide +kernel
theorem dX9_isDigit_13 : decode cX9_isDigit 13 = .ok (.goto 4, 3) := by decide +kernel
theorem dX9_isDigit_16 : decode cX9_isDigit 16 = .ok (.iconst 0, 1) := by decide +kernel
theorem dX9_isDigit_17 : decode cX9_isDigit 17 = .ok (.ireturn, 1) := by decide +kernel
theorem dX9_withLetter_0 : decode cX9_withLetter 0 = .ok (.lload_n 0, 1) := by decide +kernel
theorem dX9_withLetter_1 : decode cX9_withLetter 1 = .ok (.ldc2_w 87, 3) := by decide +kernel
theorem dX9_withLetter_4 : decode cX9_withLetter 4 = .ok (.lmul, 1) := by decide +kernel
theorem dX9_withLetter_5 : decode cX9_withLetter 5 = .ok (.iload_n 2, 1) := by decide +kernel
theorem dX9_withLetter_6 : decode cX9_withLetter 6 = .ok (.bipush 97, 2) := by decide +kernel
theorem dX9_withLetter_8 : decode cX9_withLetter 8 = .ok (.isub, 1) := by decide +kernel
theorem dX9_withLetter_9 : decode cX9_withLetter 9 = .ok (.iconst 1, 1) := by decide +kernel
theorem dX9_withLetter_10 : decode cX9_withLetter 10 = .ok (.iadd, 1) := by decide +kernel
theorem dX9_withLetter_11 : decode cX9_withLetter 11 = .ok (.i2l, 1) := by decide +kernel
theorem dX9_withLetter_12 : decode cX9_withLetter 12 = .ok (.ladd, 1) := by decide +kernel
theorem dX9_withLetter_13 : decode cX9_withLetter 13 = .ok (.lreturn, 1) := by decide +kernel
theorem dX10_init_0 : decode cX10_init 0 = .ok (.aload_n 0, 1) := by decide +kernel
theorem dX10_init_1 : decode cX10_init 1 = .ok (.invokespecial 3, 3) := by decide +kernel
theorem dX10_init_4 : decode cX10_init 4 = .ok (.aload_n 0, 1) := by decide +kernel
theorem dX10_init_5 : decode cX10_init 5 = .ok (.new 9, 3) := by decide +kernel
theorem dX10_init_8 : decode cX10_init 8 = .ok (.dup, 1) := by decide +kernel
theorem dX10_init_9 : decode cX10_init 9 = .ok (.invokespecial 11, 3) := by decide +kernel
theorem dX10_init_12 : decode cX10_init 12 = .ok (.putfield 12, 3) := by decide +kernel
theorem dX10_init_15 : decode cX10_init 15 = .ok (.aload_n 0, 1) := by decide +kernel
theorem dX10_init_16 : decode cX10_init 16 = .ok (.new 16, 3) := by decide +kernel
theorem dX10_init_19 : decode cX10_init 19 = .ok (.dup, 1) := by decide +kernel
theorem dX10_init_20 : decode cX10_init 20 = .ok (.invokespecial 18, 3) := by decide +kernel
theorem dX10_init_23 : decode cX10_init 23 = .ok (.putfield 19, 3) := by decide +kernel
theorem dX10_init_26 : decode cX10_init 26 = .ok (.aload_n 0, 1) := by decide +kernel
theorem dX10_init_27 : decode cX10_init 27 = .ok (.new 23, 3) := by decide +kernel
theorem dX10_init_30 : decode cX10_init 30 = .ok (.dup, 1) := by decide +kernel
theorem dX10_init_31 : decode cX10_init 31 = .ok (.aload_n 0, 1) := by decide +kernel
theorem dX10_init_32 : decode cX10_init 32 = .ok (.getfield 19, 3) := by decide +kernel
theorem dX10_init_35 : decode cX10_init 35 = .ok (.invokespecial 25, 3) := by decide +kernel
theorem dX10_init_38 : decode cX10_init 38 = .ok (.putfield 28, 3) := by decide +kernel
theorem dX10_init_41 : decode cX10_init 41 = .ok (.aload_n 0, 1) := by decide +kernel
theorem dX10_init_42 : decode cX10_init 42 = .ok (.new 32, 3) := by decide +kernel
theorem dX10_init_45 : decode cX10_init 45 = .ok (.dup, 1) := by decide +kernel
theorem dX10_init_46 : decode cX10_init 46 = .ok (.invokespecial 34, 3) := by decide +kernel
theorem dX10_init_49 : decode cX10_init 49 = .ok (.putfield 35, 3) := by decide +kernel
theorem dX10_init_52 : decode cX10_init 52 = .ok (.aload_n 0, 1) := by decide +kernel
theorem dX10_init_53 : decode cX10_init 53 = .ok (.new 39, 3) := by decide +kernel
theorem dX10_init_56 : decode cX10_init 56 = .ok (.dup, 1) := by decide +kernel
theorem dX10_init_57 : decode cX10_init 57 = .ok (.aload_n 0, 1) := by decide +kernel
theorem dX10_init_58 : decode cX10_init 58 = .ok (.getfield 19, 3) := by decide +kernel
theorem dX10_init_61 : decode cX10_init 61 = .ok (.aload_n 0, 1) := by decide +kernel
theorem dX10_init_62 : decode cX10_init 62 = .ok (.getfield 35, 3) := by decide +kernel
theorem dX10_init_65 : decode cX10_init 65 = .ok (.invokespecial 41, 3) := by decide +kernel
theorem dX10_init_68 : decode cX10_init 68 = .ok (.putfield 44, 3) := by decide +kernel
theorem dX10_init_71 : decode cX10_init 71 = .ok (.aload_n 0, 1) := by decide +kernel
theorem dX10_init_72 : decode cX10_init 72 = .ok (.new 48, 3) := by decide +kernel
theorem dX10_init_75 : decode cX10_init 75 = .ok (.dup, 1) := by decide +kernel
theorem dX10_init_76 : decode cX10_init 76 = .ok (.aload_n 0, 1) := by decide +kernel
theorem dX10_init_77 : decode cX10_init 77 = .ok (.getfield 19, 3) := by decide +kernel
theorem dX10_init_80 : decode cX10_init 80 = .ok (.aload_n 0, 1) := by decide +kernel
theorem dX10_init_81 : decode cX10_init 81 = .ok (.getfield 35, 3) := by decide +kernel
theorem dX10_init_84 : decode cX10_init 84 = .ok (.aload_n 0, 1) := by decide +kernel
theorem dX10_init_85 : decode cX10_init 85 = .ok (.getfield 44, 3) := by decide +kernel
theorem dX10_init_88 : decode cX10_init 88 = .ok (.invokespecial 50, 3) := by decide +kernel
theorem dX10_init_91 : decode cX10_init 91 = .ok (.putfield 53, 3) := by decide +kernel
theorem dX10_init_94 : decode cX10_init 94 = .ok (.aload_n 0, 1) := by decide +kernel
theorem dX10_init_95 : decode cX10_init 95 = .ok (.new 57, 3) := by decide +kernel
theorem dX10_init_98 : decode cX10_init 98 = .ok (.dup, 1) := by decide +kernel
theorem dX10_init_99 : decode cX10_init 99 = .ok (.aload_n 0, 1) := by decide +kernel
theorem dX10_init_100 : decode cX10_init 100 = .ok (.getfield 35, 3) := by decide +kernel
theorem dX10_init_103 : decode cX10_init 103 = .ok (.invokespecial 59, 3) := by decide +kernel
theorem dX10_init_106 : decode cX10_init 106 = .ok (.putfield 62, 3) := by decide +kernel
theorem dX10_init_109 : decode cX10_init 109 = .ok (.aload_n 0, 1) := by decide +kernel
theorem dX10_init_110 : decode cX10_init 110 = .ok (.new 66, 3) := by decide +kernel
theorem dX10_init_113 : decode cX10_init 113 = .ok (.dup, 1) := by decide +kernel
theorem dX10_init_114 : decode cX10_init 114 = .ok (.aload_n 0, 1) := by decide +kernel
theorem dX10_init_115 : decode cX10_init 115 = .ok (.getfield 35, 3) := by decide +kernel
theorem dX10_init_118 : decode cX10_init 118 = .ok (.aload_n 0, 1) := by decide +kernel
theorem dX10_init_119 : decode cX10_init 119 = .ok (.getfield 62, 3) := by decide +kernel
theorem dX10_init_122 : decode cX10_init 122 = .ok (.invokespecial 68, 3) := by decide +kernel
theorem dX10_init_125 : decode cX10_init 125 = .ok (.putfield 71, 3) := by decide +kernel
theorem dX10_init_128 : decode cX10_init 128 = .ok (.aload_n 0, 1) := by decide +kernel
theorem dX10_init_129 : decode cX10_init 129 = .ok (.iconst (-1), 1) := by decide +kernel
theorem dX10_init_130 : decode cX10_init 130 = .ok (.putfield 75, 3) := by decide +kernel
theorem dX10_init_133 : decode cX10_init 133 = .ok (.aload_n 0, 1) := by decide +kernel
theorem dX10_init_134 : decode cX10_init 134 = .ok (.iconst 0, 1) := by decide +kernel
theorem dX10_init_135 : decode cX10_init 135 = .ok (.putfield 79, 3) := by decide +kernel
theorem dX10_init_138 : decode cX10_init 138 = .ok (.return_, 1) := by decide +kernel
theorem dX10_feed_0 : decode cX10_feed 0 = .ok (.aload_n 0, 1) := by decide +kernel
theorem dX10_feed_1 : decode cX10_feed 1 = .ok (.getfield 12, 3) := by decide +kernel
theorem dX10_feed_4 : decode cX10_feed 4 = .ok (.getfield 82, 3) := by decide +kernel
theorem dX10_feed_7 : decode cX10_feed 7 = .ok (.sipush 1480, 3) := by decide +kernel
theorem dX10_feed_10 : decode cX10_feed 10 = .ok (.if_icmp .le 13, 3) := by decide +kernel
theorem dX10_feed_13 : decode cX10_feed 13 = .ok (.new 85, 3) := by decide +kernel
theorem dX10_feed_16 : decode cX10_feed 16 = .ok (.dup, 1) := by decide +kernel
theorem dX10_feed_17 : decode cX10_feed 17 = .ok (.ldc 87, 2) := by decide +kernel
theorem dX10_feed_19 : decode cX10_feed 19 = .ok (.invokespecial 89, 3) := by decide +kernel
theorem dX10_feed_22 : decode cX10_feed 22 = .ok (.athrow, 1) := by decide +kernel
theorem dX10_feed_23 : decode cX10_feed 23 = .ok (.aload_n 0, 1) := by decide +kernel
theorem dX10_feed_24 : decode cX10_feed 24 = .ok (.getfield 12, 3) := by decide +kernel
theorem dX10_feed_27 : decode cX10_feed 27 = .ok (.iload_n 1, 1) := by decide +kernel
theorem dX10_feed_28 : decode cX10_feed 28 = .ok (.invokevirtual 92, 3) := by decide +kernel
theorem dX10_feed_31 : decode cX10_feed 31 = .ok (.aload_n 0, 1) := by decide +kernel
theorem dX10_feed_32 : decode cX10_feed 32 = .ok (.getfield 12, 3) := by decide +kernel
theorem dX10_feed_35 : decode cX10_feed 35 = .ok (.iload_n 2, 1) := by decide +kernel
theorem dX10_feed_36 : decode cX10_feed 36 = .ok (.invokevirtual 92, 3) := by decide +kernel
theorem dX10_feed_39 : decode cX10_feed 39 = .ok (.aload_n 0, 1) := by decide +kernel
theorem dX10_feed_40 : decode cX10_feed 40 = .ok (.getfield 12, 3) := by decide +kernel
theorem dX10_feed_43 : decode cX10_feed 43 = .ok (.iload_n 3, 1) := by decide +kernel
theorem dX10_feed_44 : decode cX10_feed 44 = .ok (.invokevirtual 92, 3) := by decide +kernel
theorem dX10_feed_47 : decode cX10_feed 47 = .ok (.aload_n 0, 1) := by decide +kernel
theorem dX10_feed_48 : decode cX10_feed 48 = .ok (.getfield 12, 3) := by decide +kernel
theorem dX10_feed_51 : decode cX10_feed 51 = .ok (.iload 4, 2) := by decide +kernel
theorem dX10_feed_53 : decode cX10_feed 53 = .ok (.invokevirtual 92, 3) := by decide +kernel
theorem dX10_feed_56 : decode cX10_feed 56 = .ok (.aload_n 0, 1) := by decide +kernel
theorem dX10_feed_57 : decode cX10_feed 57 = .ok (.getfield 12, 3) := by decide +kernel
theorem dX10_feed_60 : decode cX10_feed 60 = .ok (.iload 5, 2) := by decide +kernel
theorem dX10_feed_62 : decode cX10_feed 62 = .ok (.invokevirtual 92, 3) := by decide +kernel
theorem dX10_feed_65 : decode cX10_feed 65 = .ok (.aload_n 0, 1) := by decide +kernel
theorem dX10_feed_66 : decode cX10_feed 66 = .ok (.getfield 12, 3) := by decide +kernel
theorem dX10_feed_69 : decode cX10_feed 69 = .ok (.getfield 82, 3) := by decide +kernel
theorem dX10_feed_72 : decode cX10_feed 72 = .ok (.ireturn, 1) := by decide +kernel
theorem dX10_trim_0 : decode cX10_trim 0 = .ok (.iload_n 1, 1) := by decide +kernel
theorem dX10_trim_1 : decode cX10_trim 1 = .ok (.ifCond .lt 14, 3) := by decide +kernel
theorem dX10_trim_4 : decode cX10_trim 4 = .ok (.iload_n 1, 1) := by decide +kernel
theorem dX10_trim_5 : decode cX10_trim 5 = .ok (.aload_n 0, 1) := by decide +kernel
theorem dX10_trim_6 : decode cX10_trim 6 = .ok (.getfield 12, 3) := by decide +kernel
theorem dX10_trim_9 : decode cX10_trim 9 = .ok (.getfield 82, 3) := by decide +kernel
theorem dX10_trim_12 : decode cX10_trim 12 = .ok (.if_icmp .le 13, 3) := by decide +kernel
theorem dX10_trim_15 : decode cX10_trim 15 = .ok (.new 96, 3) := by decide +kernel
theorem dX10_trim_18 : decode cX10_trim 18 = .ok (.dup, 1) := by decide +kernel
theorem dX10_trim_19 : decode cX10_trim 19 = .ok (.ldc 98, 2) := by decide +kernel
theorem dX10_trim_21 : decode cX10_trim 21 = .ok (.invokespecial 100, 3) := by decide +kernel
theorem dX10_trim_24 : decode cX10_trim 24 = .ok (.athrow, 1) := by decide +kernel
theorem dX10_trim_25 : decode cX10_trim 25 = .ok (.aload_n 0, 1) := by decide +kernel
theorem dX10_trim_26 : decode cX10_trim 26 = .ok (.getfield 12, 3) := by decide +kernel
theorem dX10_trim_29 : decode cX10_trim 29 = .ok (.iload_n 1, 1) := by decide +kernel
theorem dX10_trim_30 : decode cX10_trim 30 = .ok (.invokevirtual 101, 3) := by decide +kernel
theorem dX10_trim_33 : decode cX10_trim 33 = .ok (.iload_n 1, 1) := by decide +kernel
theorem dX10_trim_34 : decode cX10_trim 34 = .ok (.ireturn, 1) := by decide +kernel
theorem dX10_compile_0 : decode cX10_compile 0 = .ok (.aload_n 0, 1) := by decide +kernel
theorem dX10_compile_1 : decode cX10_compile 1 = .ok (.getfield 35, 3) := by decide +kernel
theorem dX10_compile_4 : decode cX10_compile 4 = .ok (.invokevirtual 104, 3) := by decide +kernel
theorem dX10_compile_7 : decode cX10_compile 7 = .ok (.aload_n 0, 1) := by decide +kernel
theorem dX10_compile_8 : decode cX10_compile 8 = .ok (.getfield 62, 3) := by decide +kernel
theorem dX10_compile_11 : decode cX10_compile 11 = .ok (.iconst 0, 1) := by decide +kernel
theorem dX10_compile_12 : decode cX10_compile 12 = .ok (.invokevirtual 107, 3) := by decide +kernel
theorem dX10_compile_15 : decode cX10_compile 15 = .ok (.aload_n 0, 1) := by decide +kernel
theorem dX10_compile_16 : decode cX10_compile 16 = .ok (.iconst 0, 1) := by decide +kernel
theorem dX10_compile_17 : decode cX10_compile 17 = .ok (.putfield 79, 3) := by decide +kernel
theorem dX10_compile_20 : decode cX10_compile 20 = .ok (.aload_n 0, 1) := by decide +kernel
theorem dX10_compile_21 : decode cX10_compile 21 = .ok (.getfield 19, 3) := by decide +kernel
theorem dX10_compile_24 : decode cX10_compile 24 = .ok (.aload_n 0, 1) := by decide +kernel
theorem dX10_compile_25 : decode cX10_compile 25 = .ok (.getfield 12, 3) := by decide +kernel
theorem dX10_compile_28 : decode cX10_compile 28 = .ok (.invokevirtual 110, 3) := by decide +kernel
theorem dX10_compile_31 : decode cX10_compile 31 = .ok (.aload_n 0, 1) := by decide +kernel
theorem dX10_compile_32 : decode cX10_compile 32 = .ok (.getfield 12, 3) := by decide +kernel
theorem dX10_compile_35 : decode cX10_compile 35 = .ok (.iconst 0, 1) := by decide +kernel
theorem dX10_compile_36 : decode cX10_compile 36 = .ok (.invokevirtual 101, 3) := by decide +kernel
theorem dX10_compile_39 : decode cX10_compile 39 = .ok (.aload_n 0, 1) := by decide +kernel
theorem dX10_compile_40 : decode cX10_compile 40 = .ok (.aload_n 0, 1) := by decide +kernel
theorem dX10_compile_41 : decode cX10_compile 41 = .ok (.getfield 28, 3) := by decide +kernel
theorem dX10_compile_44 : decode cX10_compile 44 = .ok (.invokevirtual 114, 3) := by decide +kernel
theorem dX10_compile_47 : decode cX10_compile 47 = .ok (.putfield 75, 3) := by decide +kernel
theorem dX10_compile_50 : decode cX10_compile 50 = .ok (.aload_n 0, 1) := by decide +kernel
theorem dX10_compile_51 : decode cX10_compile 51 = .ok (.getfield 75, 3) := by decide +kernel
theorem dX10_compile_54 : decode cX10_compile 54 = .ok (.iconst (-1), 1) := by decide +kernel
theorem dX10_compile_55 : decode cX10_compile 55 = .ok (.if_icmp .eq 5, 3) := by decide +kernel
theorem dX10_compile_58 : decode cX10_compile 58 = .ok (.iconst 1, 1) := by decide +kernel
theorem dX10_compile_59 : decode cX10_compile 59 = .ok (.ireturn, 1) := by decide +kernel
theorem dX10_compile_60 : decode cX10_compile 60 = .ok (.aload_n 0, 1) := by decide +kernel
theorem dX10_compile_61 : decode cX10_compile 61 = .ok (.getfield 53, 3) := by decide +kernel
theorem dX10_compile_64 : decode cX10_compile 64 = .ok (.invokevirtual 118, 3) := by decide +kernel
theorem dX10_compile_67 : decode cX10_compile 67 = .ok (.istore_n 1, 1) := by decide +kernel
theorem dX10_compile_68 : decode cX10_compile 68 = .ok (.aload_n 0, 1) := by decide +kernel
theorem dX10_compile_69 : decode cX10_compile 69 = .ok (.aload_n 0, 1) := by decide +kernel
theorem dX10_compile_70 : decode cX10_compile 70 = .ok (.getfield 19, 3) := by decide +kernel
theorem dX10_compile_73 : decode cX10_compile 73 = .ok (.aload_n 0, 1) := by decide +kernel
theorem dX10_compile_74 : decode cX10_compile 74 = .ok (.getfield 53, 3) := by decide +kernel
theorem dX10_compile_77 : decode cX10_compile 77 = .ok (.getfield 121, 3) := by decide +kernel
theorem dX10_compile_80 : decode cX10_compile 80 = .ok (.invokevirtual 124, 3) := by decide +kernel
theorem dX10_compile_83 : decode cX10_compile 83 = .ok (.putfield 75, 3) := by decide +kernel
theorem dX10_compile_86 : decode cX10_compile 86 = .ok (.iload_n 1, 1) := by decide +kernel
theorem dX10_compile_87 : decode cX10_compile 87 = .ok (.ifCond .eq 12, 3) := by decide +kernel
theorem dX10_compile_90 : decode cX10_compile 90 = .ok (.aload_n 0, 1) := by decide +kernel
theorem dX10_compile_91 : decode cX10_compile 91 = .ok (.getfield 35, 3) := by decide +kernel
theorem dX10_compile_94 : decode cX10_compile 94 = .ok (.invokevirtual 104, 3) := by decide +kernel
theorem dX10_compile_97 : decode cX10_compile 97 = .ok (.iload_n 1, 1) := by decide +kernel
theorem dX10_compile_98 : decode cX10_compile 98 = .ok (.ireturn, 1) := by decide +kernel
theorem dX10_compile_99 : decode cX10_compile 99 = .ok (.aload_n 0, 1) := by decide +kernel
theorem dX10_compile_100 : decode cX10_compile 100 = .ok (.getfield 53, 3) := by decide +kernel
theorem dX10_compile_103 : decode cX10_compile 103 = .ok (.invokevirtual 128, 3) := by decide +kernel
theorem dX10_compile_106 : decode cX10_compile 106 = .ok (.iconst 0, 1) := by decide +kernel
theorem dX10_compile_107 : decode cX10_compile 107 = .ok (.ireturn, 1) := by decide +kernel
theorem dX10_errorAt_0 : decode cX10_errorAt 0 = .ok (.aload_n 0, 1) := by decide +kernel
theorem dX10_errorAt_1 : decode cX10_errorAt 1 = .ok (.getfield 75, 3) := by decide +kernel
theorem dX10_errorAt_4 : decode cX10_errorAt 4 = .ok (.ireturn, 1) := by decide +kernel
theorem dX10_count_0 : decode cX10_count 0 = .ok (.iload_n 1, 1) := by decide +kernel
theorem dX10_count_1 : decode cX10_count 1 = .ok (.ifCond .lt 9, 3) := by decide +kernel
theorem dX10_count_4 : decode cX10_count 4 = .ok (.iload_n 1, 1) := by decide +kernel
theorem dX10_count_5 : decode cX10_count 5 = .ok (.bipush 8, 2) := by decide +kernel
theorem dX10_count_7 : decode cX10_count 7 = .ok (.if_icmp .lt 13, 3) := by decide +kernel
theorem dX10_count_10 : decode cX10_count 10 = .ok (.new 131, 3) := by decide +kernel
theorem dX10_count_13 : decode cX10_count 13 = .ok (.dup, 1) := by decide +kernel
theorem dX10_count_14 : decode cX10_count 14 = .ok (.ldc 133, 2) := by decide +kernel
theorem dX10_count_16 : decode cX10_count 16 = .ok (.invokespecial 135, 3) := by decide +kernel
theorem dX10_count_19 : decode cX10_count 19 = .ok (.athrow, 1) := by decide +kernel
theorem dX10_count_20 : decode cX10_count 20 = .ok (.aload_n 0, 1) := by decide +kernel
theorem dX10_count_21 : decode cX10_count 21 = .ok (.iload_n 1, 1) := by decide +kernel
theorem dX10_count_22 : decode cX10_count 22 = .ok (.invokevirtual 136, 3) := by decide +kernel
theorem dX10_count_25 : decode cX10_count 25 = .ok (.ireturn, 1) := by decide +kernel
theorem dX10_suited_0 : decode cX10_suited 0 = .ok (.aload_n 0, 1) := by decide +kernel
theorem dX10_suited_1 : decode cX10_suited 1 = .ok (.getfield 79, 3) := by decide +kernel
theorem dX10_suited_4 : decode cX10_suited 4 = .ok (.ireturn, 1) := by decide +kernel
theorem dX10_choice_0 : decode cX10_choice 0 = .ok (.aload_n 0, 1) := by decide +kernel
theorem dX10_choice_1 : decode cX10_choice 1 = .ok (.getfield 35, 3) := by decide +kernel
theorem dX10_choice_4 : decode cX10_choice 4 = .ok (.iload_n 1, 1) := by decide +kernel
theorem dX10_choice_5 : decode cX10_choice 5 = .ok (.invokevirtual 183, 3) := by decide +kernel
theorem dX10_choice_8 : decode cX10_choice 8 = .ok (.ifCond .ne 13, 3) := by decide +kernel
theorem dX10_choice_11 : decode cX10_choice 11 = .ok (.new 131, 3) := by decide +kernel
theorem dX10_choice_14 : decode cX10_choice 14 = .ok (.dup, 1) := by decide +kernel
theorem dX10_choice_15 : decode cX10_choice 15 = .ok (.ldc 186, 2) := by decide +kernel
theorem dX10_choice_17 : decode cX10_choice 17 = .ok (.invokespecial 135, 3) := by decide +kernel
theorem dX10_choice_20 : decode cX10_choice 20 = .ok (.athrow, 1) := by decide +kernel
theorem dX10_choice_21 : decode cX10_choice 21 = .ok (.iload_n 2, 1) := by decide +kernel
theorem dX10_choice_22 : decode cX10_choice 22 = .ok (.ifCond .eq 15, 3) := by decide +kernel
theorem dX10_choice_25 : decode cX10_choice 25 = .ok (.aload_n 0, 1) := by decide +kernel
theorem dX10_choice_26 : decode cX10_choice 26 = .ok (.getfield 35, 3) := by decide +kernel
theorem dX10_choice_29 : decode cX10_choice 29 = .ok (.getfield 188, 3) := by decide +kernel
theorem dX10_choice_32 : decode cX10_choice 32 = .ok (.iload_n 1, 1) := by decide +kernel
theorem dX10_choice_33 : decode cX10_choice 33 = .ok (.iaload, 1) := by decide +kernel
theorem dX10_choice_34 : decode cX10_choice 34 = .ok (.goto 12, 3) := by decide +kernel
theorem dX10_choice_37 : decode cX10_choice 37 = .ok (.aload_n 0, 1) := by decide +kernel
theorem dX10_choice_38 : decode cX10_choice 38 = .ok (.getfield 35, 3) := by decide +kernel
theorem dX10_choice_41 : decode cX10_choice 41 = .ok (.getfield 192, 3) := by decide +kernel
theorem dX10_choice_44 : decode cX10_choice 44 = .ok (.iload_n 1, 1) := by decide +kernel
theorem dX10_choice_45 : decode cX10_choice 45 = .ok (.iaload, 1) := by decide +kernel
theorem dX10_choice_46 : decode cX10_choice 46 = .ok (.ireturn, 1) := by decide +kernel
theorem dX10_plan_0 : decode cX10_plan 0 = .ok (.iload_n 1, 1) := by decide +kernel
theorem dX10_plan_1 : decode cX10_plan 1 = .ok (.iconst 1, 1) := by decide +kernel
theorem dX10_plan_2 : decode cX10_plan 2 = .ok (.if_icmp .lt 9, 3) := by decide +kernel
theorem dX10_plan_5 : decode cX10_plan 5 = .ok (.iload_n 1, 1) := by decide +kernel
theorem dX10_plan_6 : decode cX10_plan 6 = .ok (.bipush 14, 2) := by decide +kernel
theorem dX10_plan_8 : decode cX10_plan 8 = .ok (.if_icmp .le 13, 3) := by decide +kernel
theorem dX10_plan_11 : decode cX10_plan 11 = .ok (.new 96, 3) := by decide +kernel
theorem dX10_plan_14 : decode cX10_plan 14 = .ok (.dup, 1) := by decide +kernel
theorem dX10_plan_15 : decode cX10_plan 15 = .ok (.ldc 206, 2) := by decide +kernel
theorem dX10_plan_17 : decode cX10_plan 17 = .ok (.invokespecial 100, 3) := by decide +kernel
theorem dX10_plan_20 : decode cX10_plan 20 = .ok (.athrow, 1) := by decide +kernel
theorem dX10_plan_21 : decode cX10_plan 21 = .ok (.aload_n 0, 1) := by decide +kernel
theorem dX10_plan_22 : decode cX10_plan 22 = .ok (.getfield 35, 3) := by decide +kernel
theorem dX10_plan_25 : decode cX10_plan 25 = .ok (.getfield 148, 3) := by decide +kernel
theorem dX10_plan_28 : decode cX10_plan 28 = .ok (.getfield 152, 3) := by decide +kernel
theorem dX10_plan_31 : decode cX10_plan 31 = .ok (.ifCond .ne 13, 3) := by decide +kernel
theorem dX10_plan_34 : decode cX10_plan 34 = .ok (.new 85, 3) := by decide +kernel
theorem dX10_plan_37 : decode cX10_plan 37 = .ok (.dup, 1) := by decide +kernel
theorem dX10_plan_38 : decode cX10_plan 38 = .ok (.ldc 208, 2) := by decide +kernel
theorem dX10_plan_40 : decode cX10_plan 40 = .ok (.invokespecial 89, 3) := by decide +kernel
theorem dX10_plan_43 : decode cX10_plan 43 = .ok (.athrow, 1) := by decide +kernel
theorem dX10_plan_44 : decode cX10_plan 44 = .ok (.aload_n 0, 1) := by decide +kernel
theorem dX10_plan_45 : decode cX10_plan 45 = .ok (.getfield 71, 3) := by decide +kernel
theorem dX10_plan_48 : decode cX10_plan 48 = .ok (.iload_n 1, 1) := by decide +kernel
theorem dX10_plan_49 : decode cX10_plan 49 = .ok (.invokevirtual 210, 3) := by decide +kernel
theorem dX10_plan_52 : decode cX10_plan 52 = .ok (.aload_n 0, 1) := by decide +kernel
theorem dX10_plan_53 : decode cX10_plan 53 = .ok (.getfield 62, 3) := by decide +kernel
theorem dX10_plan_56 : decode cX10_plan 56 = .ok (.invokevirtual 213, 3) := by decide +kernel
theorem dX10_plan_59 : decode cX10_plan 59 = .ok (.ireturn, 1) := by decide +kernel
theorem dX10_at_0 : decode cX10_at 0 = .ok (.aload_n 0, 1) := by decide +kernel
theorem dX10_at_1 : decode cX10_at 1 = .ok (.getfield 62, 3) := by decide +kernel
theorem dX10_at_4 : decode cX10_at 4 = .ok (.iload_n 1, 1) := by decide +kernel
theorem dX10_at_5 : decode cX10_at 5 = .ok (.iload_n 2, 1) := by decide +kernel
theorem dX10_at_6 : decode cX10_at 6 = .ok (.invokevirtual 216, 3) := by decide +kernel
theorem dX10_at_9 : decode cX10_at 9 = .ok (.ifCond .ne 13, 3) := by decide +kernel
theorem dX10_at_12 : decode cX10_at 12 = .ok (.new 131, 3) := by decide +kernel
theorem dX10_at_15 : decode cX10_at 15 = .ok (.dup, 1) := by decide +kernel
theorem dX10_at_16 : decode cX10_at 16 = .ok (.ldc 220, 2) := by decide +kernel
theorem dX10_at_18 : decode cX10_at 18 = .ok (.invokespecial 135, 3) := by decide +kernel
theorem dX10_at_21 : decode cX10_at 21 = .ok (.athrow, 1) := by decide +kernel
theorem dX10_at_22 : decode cX10_at 22 = .ok (.aload_n 0, 1) := by decide +kernel
theorem dX10_at_23 : decode cX10_at 23 = .ok (.getfield 62, 3) := by decide +kernel
theorem dX10_at_26 : decode cX10_at 26 = .ok (.iload_n 1, 1) := by decide +kernel
theorem dX10_at_27 : decode cX10_at 27 = .ok (.iload_n 2, 1) := by decide +kernel
theorem dX10_at_28 : decode cX10_at 28 = .ok (.invokevirtual 222, 3) := by decide +kernel
theorem dX10_at_31 : decode cX10_at 31 = .ok (.ireturn, 1) := by decide +kernel
theorem dX10_faults_0 : decode cX10_faults 0 = .ok (.aload_n 0, 1) := by decide +kernel
theorem dX10_faults_1 : decode cX10_faults 1 = .ok (.getfield 62, 3) := by decide +kernel
theorem dX10_faults_4 : decode cX10_faults 4 = .ok (.invokevirtual 213, 3) := by decide +kernel
theorem dX10_faults_7 : decode cX10_faults 7 = .ok (.ireturn, 1) := by decide +kernel
theorem dX10_faultsOf_0 : decode cX10_faultsOf 0 = .ok (.aload_n 0, 1) := by decide +kernel
theorem dX10_faultsOf_1 : decode cX10_faultsOf 1 = .ok (.getfield 35, 3) := by decide +kernel
theorem dX10_faultsOf_4 : decode cX10_faultsOf 4 = .ok (.getfield 194, 3) := by decide +kernel
theorem dX10_faultsOf_7 : decode cX10_faultsOf 7 = .ok (.iload_n 1, 1) := by decide +kernel
theorem dX10_faultsOf_8 : decode cX10_faultsOf 8 = .ok (.invokevirtual 198, 3) := by decide +kernel
theorem dX10_faultsOf_11 : decode cX10_faultsOf 11 = .ok (.ifCond .ne 13, 3) := by decide +kernel
theorem dX10_faultsOf_14 : decode cX10_faultsOf 14 = .ok (.new 131, 3) := by decide +kernel
theorem dX10_faultsOf_17 : decode cX10_faultsOf 17 = .ok (.dup, 1) := by decide +kernel
theorem dX10_faultsOf_18 : decode cX10_faultsOf 18 = .ok (.ldc 236, 2) := by decide +kernel
theorem dX10_faultsOf_20 : decode cX10_faultsOf 20 = .ok (.invokespecial 135, 3) := by decide +kernel
theorem dX10_faultsOf_23 : decode cX10_faultsOf 23 = .ok (.athrow, 1) := by decide +kernel
theorem dX10_faultsOf_24 : decode cX10_faultsOf 24 = .ok (.aload_n 0, 1) := by decide +kernel
theorem dX10_faultsOf_25 : decode cX10_faultsOf 25 = .ok (.getfield 62, 3) := by decide +kernel
theorem dX10_faultsOf_28 : decode cX10_faultsOf 28 = .ok (.getfield 238, 3) := by decide +kernel
theorem dX10_faultsOf_31 : decode cX10_faultsOf 31 = .ok (.iload_n 1, 1) := by decide +kernel
theorem dX10_faultsOf_32 : decode cX10_faultsOf 32 = .ok (.iaload, 1) := by decide +kernel
theorem dX10_faultsOf_33 : decode cX10_faultsOf 33 = .ok (.ireturn, 1) := by decide +kernel
theorem dX10_improve_0 : decode cX10_improve 0 = .ok (.aload_n 0, 1) := by decide +kernel
theorem dX10_improve_1 : decode cX10_improve 1 = .ok (.getfield 71, 3) := by decide +kernel
theorem dX10_improve_4 : decode cX10_improve 4 = .ok (.invokevirtual 241, 3) := by decide +kernel
theorem dX10_improve_7 : decode cX10_improve 7 = .ok (.aload_n 0, 1) := by decide +kernel
theorem dX10_improve_8 : decode cX10_improve 8 = .ok (.getfield 62, 3) := by decide +kernel
theorem dX10_improve_11 : decode cX10_improve 11 = .ok (.invokevirtual 213, 3) := by decide +kernel
theorem dX10_improve_14 : decode cX10_improve 14 = .ok (.ireturn, 1) := by decide +kernel
theorem dX10_exchange_0 : decode cX10_exchange 0 = .ok (.aload_n 0, 1) := by decide +kernel
theorem dX10_exchange_1 : decode cX10_exchange 1 = .ok (.getfield 62, 3) := by decide +kernel
theorem dX10_exchange_4 : decode cX10_exchange 4 = .ok (.iload_n 1, 1) := by decide +kernel
theorem dX10_exchange_5 : decode cX10_exchange 5 = .ok (.invokevirtual 244, 3) := by decide +kernel
theorem dX10_exchange_8 : decode cX10_exchange 8 = .ok (.ifCond .eq 14, 3) := by decide +kernel
theorem dX10_exchange_11 : decode cX10_exchange 11 = .ok (.aload_n 0, 1) := by decide +kernel
theorem dX10_exchange_12 : decode cX10_exchange 12 = .ok (.getfield 62, 3) := by decide +kernel
theorem dX10_exchange_15 : decode cX10_exchange 15 = .ok (.iload_n 2, 1) := by decide +kernel
theorem dX10_exchange_16 : decode cX10_exchange 16 = .ok (.invokevirtual 244, 3) := by decide +kernel
theorem dX10_exchange_19 : decode cX10_exchange 19 = .ok (.ifCond .ne 13, 3) := by decide +kernel
theorem dX10_exchange_22 : decode cX10_exchange 22 = .ok (.new 131, 3) := by decide +kernel
theorem dX10_exchange_25 : decode cX10_exchange 25 = .ok (.dup, 1) := by decide +kernel
theorem dX10_exchange_26 : decode cX10_exchange 26 = .ok (.ldc 247, 2) := by decide +kernel
theorem dX10_exchange_28 : decode cX10_exchange 28 = .ok (.invokespecial 135, 3) := by decide +kernel
theorem dX10_exchange_31 : decode cX10_exchange 31 = .ok (.athrow, 1) := by decide +kernel
theorem dX10_exchange_32 : decode cX10_exchange 32 = .ok (.iload_n 1, 1) := by decide +kernel
theorem dX10_exchange_33 : decode cX10_exchange 33 = .ok (.iload_n 2, 1) := by decide +kernel
theorem dX10_exchange_34 : decode cX10_exchange 34 = .ok (.if_icmp .ne 13, 3) := by decide +kernel
theorem dX10_exchange_37 : decode cX10_exchange 37 = .ok (.new 96, 3) := by decide +kernel
theorem dX10_exchange_40 : decode cX10_exchange 40 = .ok (.dup, 1) := by decide +kernel
theorem dX10_exchange_41 : decode cX10_exchange 41 = .ok (.ldc 249, 2) := by decide +kernel
theorem dX10_exchange_43 : decode cX10_exchange 43 = .ok (.invokespecial 100, 3) := by decide +kernel
theorem dX10_exchange_46 : decode cX10_exchange 46 = .ok (.athrow, 1) := by decide +kernel
theorem dX10_exchange_47 : decode cX10_exchange 47 = .ok (.iconst 0, 1) := by decide +kernel
theorem dX10_exchange_48 : decode cX10_exchange 48 = .ok (.istore_n 3, 1) := by decide +kernel
theorem dX10_exchange_49 : decode cX10_exchange 49 = .ok (.iload_n 3, 1) := by decide +kernel
theorem dX10_exchange_50 : decode cX10_exchange 50 = .ok (.aload_n 0, 1) := by decide +kernel
theorem dX10_exchange_51 : decode cX10_exchange 51 = .ok (.getfield 35, 3) := by decide +kernel
theorem dX10_exchange_54 : decode cX10_exchange 54 = .ok (.getfield 251, 3) := by decide +kernel
theorem dX10_exchange_57 : decode cX10_exchange 57 = .ok (.if_icmp .ge 49, 3) := by decide +kernel
theorem dX10_exchange_60 : decode cX10_exchange 60 = .ok (.aload_n 0, 1) := by decide +kernel
theorem dX10_exchange_61 : decode cX10_exchange 61 = .ok (.getfield 62, 3) := by decide +kernel
theorem dX10_exchange_64 : decode cX10_exchange 64 = .ok (.iload_n 1, 1) := by decide +kernel
theorem dX10_exchange_65 : decode cX10_exchange 65 = .ok (.iload_n 3, 1) := by decide +kernel
theorem dX10_exchange_66 : decode cX10_exchange 66 = .ok (.invokevirtual 222, 3) := by decide +kernel
theorem dX10_exchange_69 : decode cX10_exchange 69 = .ok (.istore 4, 2) := by decide +kernel
theorem dX10_exchange_71 : decode cX10_exchange 71 = .ok (.aload_n 0, 1) := by decide +kernel
theorem dX10_exchange_72 : decode cX10_exchange 72 = .ok (.getfield 62, 3) := by decide +kernel
theorem dX10_exchange_75 : decode cX10_exchange 75 = .ok (.iload_n 1, 1) := by decide +kernel
theorem dX10_exchange_76 : decode cX10_exchange 76 = .ok (.iload_n 3, 1) := by decide +kernel
theorem dX10_exchange_77 : decode cX10_exchange 77 = .ok (.aload_n 0, 1) := by decide +kernel
theorem dX10_exchange_78 : decode cX10_exchange 78 = .ok (.getfield 62, 3) := by decide +kernel
theorem dX10_exchange_81 : decode cX10_exchange 81 = .ok (.iload_n 2, 1) := by decide +kernel
theorem dX10_exchange_82 : decode cX10_exchange 82 = .ok (.iload_n 3, 1) := by decide +kernel
theorem dX10_exchange_83 : decode cX10_exchange 83 = .ok (.invokevirtual 222, 3) := by decide +kernel
theorem dX10_exchange_86 : decode cX10_exchange 86 = .ok (.invokevirtual 232, 3) := by decide +kernel
theorem dX10_exchange_89 : decode cX10_exchange 89 = .ok (.aload_n 0, 1) := by decide +kernel
theorem dX10_exchange_90 : decode cX10_exchange 90 = .ok (.getfield 62, 3) := by decide +kernel
theorem dX10_exchange_93 : decode cX10_exchange 93 = .ok (.iload_n 2, 1) := by decide +kernel
theorem dX10_exchange_94 : decode cX10_exchange 94 = .ok (.iload_n 3, 1) := by decide +kernel
theorem dX10_exchange_95 : decode cX10_exchange 95 = .ok (.iload 4, 2) := by decide +kernel
theorem dX10_exchange_97 : decode cX10_exchange 97 = .ok (.invokevirtual 232, 3) := by decide +kernel
theorem dX10_exchange_100 : decode cX10_exchange 100 = .ok (.iinc 3 1, 3) := by decide +kernel
theorem dX10_exchange_103 : decode cX10_exchange 103 = .ok (.goto (-54), 3) := by decide +kernel
theorem dX10_exchange_106 : decode cX10_exchange 106 = .ok (.aload_n 0, 1) := by decide +kernel
theorem dX10_exchange_107 : decode cX10_exchange 107 = .ok (.getfield 62, 3) := by decide +kernel
theorem dX10_exchange_110 : decode cX10_exchange 110 = .ok (.invokevirtual 213, 3) := by decide +kernel
theorem dX10_exchange_113 : decode cX10_exchange 113 = .ok (.ireturn, 1) := by decide +kernel
theorem dX10_times_0 : decode cX10_times 0 = .ok (.aload_n 0, 1) := by decide +kernel
theorem dX10_times_1 : decode cX10_times 1 = .ok (.getfield 35, 3) := by decide +kernel
theorem dX10_times_4 : decode cX10_times 4 = .ok (.getfield 148, 3) := by decide +kernel
theorem dX10_times_7 : decode cX10_times 7 = .ok (.iload_n 1, 1) := by decide +kernel
theorem dX10_times_8 : decode cX10_times 8 = .ok (.invokevirtual 164, 3) := by decide +kernel
theorem dX10_times_11 : decode cX10_times 11 = .ok (.ifCond .ne 14, 3) := by decide +kernel
theorem dX10_times_14 : decode cX10_times 14 = .ok (.new 131, 3) := by decide +kernel
theorem dX10_times_17 : decode cX10_times 17 = .ok (.dup, 1) := by decide +kernel
theorem dX10_times_18 : decode cX10_times 18 = .ok (.ldc_w 260, 3) := by decide +kernel
theorem dX10_times_21 : decode cX10_times 21 = .ok (.invokespecial 135, 3) := by decide +kernel
theorem dX10_times_24 : decode cX10_times 24 = .ok (.athrow, 1) := by decide +kernel
theorem dX10_times_25 : decode cX10_times 25 = .ok (.aload_n 0, 1) := by decide +kernel
theorem dX10_times_26 : decode cX10_times 26 = .ok (.getfield 62, 3) := by decide +kernel
theorem dX10_times_29 : decode cX10_times 29 = .ok (.getfield 262, 3) := by decide +kernel
theorem dX10_times_32 : decode cX10_times 32 = .ok (.iload_n 1, 1) := by decide +kernel
theorem dX10_times_33 : decode cX10_times 33 = .ok (.iaload, 1) := by decide +kernel
theorem dX10_times_34 : decode cX10_times 34 = .ok (.ireturn, 1) := by decide +kernel
theorem dX10_digest_0 : decode cX10_digest 0 = .ok (.ldc2_w 279, 3) := by decide +kernel
theorem dX10_digest_3 : decode cX10_digest 3 = .ok (.lstore_n 1, 1) := by decide +kernel
theorem dX10_digest_4 : decode cX10_digest 4 = .ok (.iconst 0, 1) := by decide +kernel
theorem dX10_digest_5 : decode cX10_digest 5 = .ok (.istore_n 3, 1) := by decide +kernel
theorem dX10_digest_6 : decode cX10_digest 6 = .ok (.iload_n 3, 1) := by decide +kernel
theorem dX10_digest_7 : decode cX10_digest 7 = .ok (.bipush 8, 2) := by decide +kernel
theorem dX10_digest_9 : decode cX10_digest 9 = .ok (.if_icmp .ge 22, 3) := by decide +kernel
theorem dX10_digest_12 : decode cX10_digest 12 = .ok (.lload_n 1, 1) := by decide +kernel
theorem dX10_digest_13 : decode cX10_digest 13 = .ok (.ldc2_w 281, 3) := by decide +kernel
theorem dX10_digest_16 : decode cX10_digest 16 = .ok (.lmul, 1) := by decide +kernel
theorem dX10_digest_17 : decode cX10_digest 17 = .ok (.aload_n 0, 1) := by decide +kernel
theorem dX10_digest_18 : decode cX10_digest 18 = .ok (.iload_n 3, 1) := by decide +kernel
theorem dX10_digest_19 : decode cX10_digest 19 = .ok (.invokevirtual 136, 3) := by decide +kernel
theorem dX10_digest_22 : decode cX10_digest 22 = .ok (.i2l, 1) := by decide +kernel
theorem dX10_digest_23 : decode cX10_digest 23 = .ok (.ladd, 1) := by decide +kernel
theorem dX10_digest_24 : decode cX10_digest 24 = .ok (.lstore_n 1, 1) := by decide +kernel
theorem dX10_digest_25 : decode cX10_digest 25 = .ok (.iinc 3 1, 3) := by decide +kernel
theorem dX10_digest_28 : decode cX10_digest 28 = .ok (.goto (-22), 3) := by decide +kernel
theorem dX10_digest_31 : decode cX10_digest 31 = .ok (.aload_n 0, 1) := by decide +kernel
theorem dX10_digest_32 : decode cX10_digest 32 = .ok (.getfield 62, 3) := by decide +kernel
theorem dX10_digest_35 : decode cX10_digest 35 = .ok (.aload_n 0, 1) := by decide +kernel
theorem dX10_digest_36 : decode cX10_digest 36 = .ok (.getfield 35, 3) := by decide +kernel
theorem dX10_digest_39 : decode cX10_digest 39 = .ok (.lload_n 1, 1) := by decide +kernel
theorem dX10_digest_40 : decode cX10_digest 40 = .ok (.invokevirtual 283, 3) := by decide +kernel
theorem dX10_digest_43 : decode cX10_digest 43 = .ok (.invokevirtual 287, 3) := by decide +kernel
theorem dX10_digest_46 : decode cX10_digest 46 = .ok (.lreturn, 1) := by decide +kernel
theorem dX10_countOf_0 : decode cX10_countOf 0 = .ok (.iload_n 1, 1) := by decide +kernel
theorem dX10_countOf_1 : decode cX10_countOf 1 = .ok (.tableswitch 114 0 6 #[43, 54, 65, 76, 84, 95, 106], 43) := by decide +kernel
theorem dX10_countOf_44 : decode cX10_countOf 44 = .ok (.aload_n 0, 1) := by decide +kernel
theorem dX10_countOf_45 : decode cX10_countOf 45 = .ok (.getfield 35, 3) := by decide +kernel
theorem dX10_countOf_48 : decode cX10_countOf 48 = .ok (.getfield 161, 3) := by decide +kernel
theorem dX10_countOf_51 : decode cX10_countOf 51 = .ok (.getfield 152, 3) := by decide +kernel
theorem dX10_countOf_54 : decode cX10_countOf 54 = .ok (.ireturn, 1) := by decide +kernel
theorem dX10_countOf_55 : decode cX10_countOf 55 = .ok (.aload_n 0, 1) := by decide +kernel
theorem dX10_countOf_56 : decode cX10_countOf 56 = .ok (.getfield 35, 3) := by decide +kernel
theorem dX10_countOf_59 : decode cX10_countOf 59 = .ok (.getfield 148, 3) := by decide +kernel
theorem dX10_countOf_62 : decode cX10_countOf 62 = .ok (.getfield 152, 3) := by decide +kernel
theorem dX10_countOf_65 : decode cX10_countOf 65 = .ok (.ireturn, 1) := by decide +kernel
theorem dX10_countOf_66 : decode cX10_countOf 66 = .ok (.aload_n 0, 1) := by decide +kernel
theorem dX10_countOf_67 : decode cX10_countOf 67 = .ok (.getfield 35, 3) := by decide +kernel
theorem dX10_countOf_70 : decode cX10_countOf 70 = .ok (.getfield 288, 3) := by decide +kernel
theorem dX10_countOf_73 : decode cX10_countOf 73 = .ok (.getfield 152, 3) := by decide +kernel
theorem dX10_countOf_76 : decode cX10_countOf 76 = .ok (.ireturn, 1) := by decide +kernel
theorem dX10_countOf_77 : decode cX10_countOf 77 = .ok (.aload_n 0, 1) := by decide +kernel
theorem dX10_countOf_78 : decode cX10_countOf 78 = .ok (.getfield 35, 3) := by decide +kernel
theorem dX10_countOf_81 : decode cX10_countOf 81 = .ok (.getfield 251, 3) := by decide +kernel
theorem dX10_countOf_84 : decode cX10_countOf 84 = .ok (.ireturn, 1) := by decide +kernel
theorem dX10_countOf_85 : decode cX10_countOf 85 = .ok (.aload_n 0, 1) := by decide +kernel
theorem dX10_countOf_86 : decode cX10_countOf 86 = .ok (.getfield 35, 3) := by decide +kernel
theorem dX10_countOf_89 : decode cX10_countOf 89 = .ok (.getfield 194, 3) := by decide +kernel
theorem dX10_countOf_92 : decode cX10_countOf 92 = .ok (.getfield 291, 3) := by decide +kernel
theorem dX10_countOf_95 : decode cX10_countOf 95 = .ok (.ireturn, 1) := by decide +kernel
theorem dX10_countOf_96 : decode cX10_countOf 96 = .ok (.aload_n 0, 1) := by decide +kernel
theorem dX10_countOf_97 : decode cX10_countOf 97 = .ok (.getfield 35, 3) := by decide +kernel
theorem dX10_countOf_100 : decode cX10_countOf 100 = .ok (.getfield 292, 3) := by decide +kernel
theorem dX10_countOf_103 : decode cX10_countOf 103 = .ok (.getfield 152, 3) := by decide +kernel
theorem dX10_countOf_106 : decode cX10_countOf 106 = .ok (.ireturn, 1) := by decide +kernel
theorem dX10_countOf_107 : decode cX10_countOf 107 = .ok (.aload_n 0, 1) := by decide +kernel
theorem dX10_countOf_108 : decode cX10_countOf 108 = .ok (.getfield 62, 3) := by decide +kernel
theorem dX10_countOf_111 : decode cX10_countOf 111 = .ok (.getfield 273, 3) := by decide +kernel
theorem dX10_countOf_114 : decode cX10_countOf 114 = .ok (.ireturn, 1) := by decide +kernel
theorem dX10_countOf_115 : decode cX10_countOf 115 = .ok (.aload_n 0, 1) := by decide +kernel
theorem dX10_countOf_116 : decode cX10_countOf 116 = .ok (.getfield 12, 3) := by decide +kernel
theorem dX10_countOf_119 : decode cX10_countOf 119 = .ok (.getfield 82, 3) := by decide +kernel
theorem dX10_countOf_122 : decode cX10_countOf 122 = .ok (.ireturn, 1) := by decide +kernel
