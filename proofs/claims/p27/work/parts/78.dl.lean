/-! the law: what its bytes say -/
theorem dL_below_0 : decode cL_below 0 = .ok (.iload_n 0, 1) := by decide +kernel
theorem dL_below_1 : decode cL_below 1 = .ok (.ldc 7, 2) := by decide +kernel
theorem dL_below_3 : decode cL_below 3 = .ok (.iand, 1) := by decide +kernel
theorem dL_below_4 : decode cL_below 4 = .ok (.iload_n 1, 1) := by decide +kernel
theorem dL_below_5 : decode cL_below 5 = .ok (.irem, 1) := by decide +kernel
theorem dL_below_6 : decode cL_below 6 = .ok (.ireturn, 1) := by decide +kernel
theorem dL_cell_0 : decode cL_cell 0 = .ok (.iload_n 1, 1) := by decide +kernel
theorem dL_cell_1 : decode cL_cell 1 = .ok (.aload_n 0, 1) := by decide +kernel
theorem dL_cell_2 : decode cL_cell 2 = .ok (.arraylength, 1) := by decide +kernel
theorem dL_cell_3 : decode cL_cell 3 = .ok (.if_icmp .ge 9, 3) := by decide +kernel
theorem dL_cell_6 : decode cL_cell 6 = .ok (.aload_n 0, 1) := by decide +kernel
theorem dL_cell_7 : decode cL_cell 7 = .ok (.iload_n 1, 1) := by decide +kernel
theorem dL_cell_8 : decode cL_cell 8 = .ok (.iaload, 1) := by decide +kernel
theorem dL_cell_9 : decode cL_cell 9 = .ok (.goto 9, 3) := by decide +kernel
theorem dL_cell_12 : decode cL_cell 12 = .ok (.ldc 8, 2) := by decide +kernel
theorem dL_cell_14 : decode cL_cell 14 = .ok (.iload_n 1, 1) := by decide +kernel
theorem dL_cell_15 : decode cL_cell 15 = .ok (.iconst 3, 1) := by decide +kernel
theorem dL_cell_16 : decode cL_cell 16 = .ok (.iadd, 1) := by decide +kernel
theorem dL_cell_17 : decode cL_cell 17 = .ok (.imul, 1) := by decide +kernel
theorem dL_cell_18 : decode cL_cell 18 = .ok (.ireturn, 1) := by decide +kernel
theorem dL_put_0 : decode cL_put 0 = .ok (.iconst 0, 1) := by decide +kernel
theorem dL_put_1 : decode cL_put 1 = .ok (.istore_n 2, 1) := by decide +kernel
theorem dL_put_2 : decode cL_put 2 = .ok (.iload_n 2, 1) := by decide +kernel
theorem dL_put_3 : decode cL_put 3 = .ok (.aload_n 1, 1) := by decide +kernel
theorem dL_put_4 : decode cL_put 4 = .ok (.invokevirtual 9, 3) := by decide +kernel
theorem dL_put_7 : decode cL_put 7 = .ok (.if_icmp .ge 23, 3) := by decide +kernel
theorem dL_put_10 : decode cL_put 10 = .ok (.aload_n 0, 1) := by decide +kernel
theorem dL_put_11 : decode cL_put 11 = .ok (.iconst 1, 1) := by decide +kernel
theorem dL_put_12 : decode cL_put 12 = .ok (.aload_n 0, 1) := by decide +kernel
theorem dL_put_13 : decode cL_put 13 = .ok (.iconst 0, 1) := by decide +kernel
theorem dL_put_14 : decode cL_put 14 = .ok (.iaload, 1) := by decide +kernel
theorem dL_put_15 : decode cL_put 15 = .ok (.iadd, 1) := by decide +kernel
theorem dL_put_16 : decode cL_put 16 = .ok (.iload_n 2, 1) := by decide +kernel
theorem dL_put_17 : decode cL_put 17 = .ok (.iadd, 1) := by decide +kernel
theorem dL_put_18 : decode cL_put 18 = .ok (.aload_n 1, 1) := by decide +kernel
theorem dL_put_19 : decode cL_put 19 = .ok (.iload_n 2, 1) := by decide +kernel
theorem dL_put_20 : decode cL_put 20 = .ok (.invokevirtual 15, 3) := by decide +kernel
theorem dL_put_23 : decode cL_put 23 = .ok (.iastore, 1) := by decide +kernel
theorem dL_put_24 : decode cL_put 24 = .ok (.iinc 2 1, 3) := by decide +kernel
theorem dL_put_27 : decode cL_put 27 = .ok (.goto (-25), 3) := by decide +kernel
theorem dL_put_30 : decode cL_put 30 = .ok (.aload_n 0, 1) := by decide +kernel
theorem dL_put_31 : decode cL_put 31 = .ok (.iconst 0, 1) := by decide +kernel
theorem dL_put_32 : decode cL_put 32 = .ok (.dup2, 1) := by decide +kernel
theorem dL_put_33 : decode cL_put 33 = .ok (.iaload, 1) := by decide +kernel
theorem dL_put_34 : decode cL_put 34 = .ok (.aload_n 1, 1) := by decide +kernel
theorem dL_put_35 : decode cL_put 35 = .ok (.invokevirtual 9, 3) := by decide +kernel
theorem dL_put_38 : decode cL_put 38 = .ok (.iadd, 1) := by decide +kernel
theorem dL_put_39 : decode cL_put 39 = .ok (.iastore, 1) := by decide +kernel
theorem dL_put_40 : decode cL_put 40 = .ok (.return_, 1) := by decide +kernel
theorem dL_put__0 : decode cL_put_ 0 = .ok (.iload_n 1, 1) := by decide +kernel
theorem dL_put__1 : decode cL_put_ 1 = .ok (.bipush 9, 2) := by decide +kernel
theorem dL_put__3 : decode cL_put_ 3 = .ok (.if_icmp .le 11, 3) := by decide +kernel
theorem dL_put__6 : decode cL_put_ 6 = .ok (.aload_n 0, 1) := by decide +kernel
theorem dL_put__7 : decode cL_put_ 7 = .ok (.iload_n 1, 1) := by decide +kernel
theorem dL_put__8 : decode cL_put_ 8 = .ok (.bipush 10, 2) := by decide +kernel
theorem dL_put__10 : decode cL_put_ 10 = .ok (.idiv, 1) := by decide +kernel
theorem dL_put__11 : decode cL_put_ 11 = .ok (.invokestatic 19, 3) := by decide +kernel
theorem dL_put__14 : decode cL_put_ 14 = .ok (.aload_n 0, 1) := by decide +kernel
theorem dL_put__15 : decode cL_put_ 15 = .ok (.iconst 1, 1) := by decide +kernel
theorem dL_put__16 : decode cL_put_ 16 = .ok (.aload_n 0, 1) := by decide +kernel
theorem dL_put__17 : decode cL_put_ 17 = .ok (.iconst 0, 1) := by decide +kernel
theorem dL_put__18 : decode cL_put_ 18 = .ok (.iaload, 1) := by decide +kernel
theorem dL_put__19 : decode cL_put_ 19 = .ok (.iadd, 1) := by decide +kernel
theorem dL_put__20 : decode cL_put_ 20 = .ok (.bipush 48, 2) := by decide +kernel
theorem dL_put__22 : decode cL_put_ 22 = .ok (.iload_n 1, 1) := by decide +kernel
theorem dL_put__23 : decode cL_put_ 23 = .ok (.bipush 10, 2) := by decide +kernel
theorem dL_put__25 : decode cL_put_ 25 = .ok (.irem, 1) := by decide +kernel
theorem dL_put__26 : decode cL_put_ 26 = .ok (.iadd, 1) := by decide +kernel
theorem dL_put__27 : decode cL_put_ 27 = .ok (.iastore, 1) := by decide +kernel
theorem dL_put__28 : decode cL_put_ 28 = .ok (.aload_n 0, 1) := by decide +kernel
theorem dL_put__29 : decode cL_put_ 29 = .ok (.iconst 0, 1) := by decide +kernel
theorem dL_put__30 : decode cL_put_ 30 = .ok (.dup2, 1) := by decide +kernel
theorem dL_put__31 : decode cL_put_ 31 = .ok (.iaload, 1) := by decide +kernel
theorem dL_put__32 : decode cL_put_ 32 = .ok (.iconst 1, 1) := by decide +kernel
theorem dL_put__33 : decode cL_put_ 33 = .ok (.iadd, 1) := by decide +kernel
theorem dL_put__34 : decode cL_put_ 34 = .ok (.iastore, 1) := by decide +kernel
theorem dL_put__35 : decode cL_put_ 35 = .ok (.return_, 1) := by decide +kernel
theorem dL_lay_0 : decode cL_lay 0 = .ok (.aload_n 0, 1) := by decide +kernel
theorem dL_lay_1 : decode cL_lay 1 = .ok (.bipush 7, 2) := by decide +kernel
theorem dL_lay_3 : decode cL_lay 3 = .ok (.invokevirtual 25, 3) := by decide +kernel
theorem dL_lay_6 : decode cL_lay 6 = .ok (.istore_n 2, 1) := by decide +kernel
theorem dL_lay_7 : decode cL_lay 7 = .ok (.aload_n 1, 1) := by decide +kernel
theorem dL_lay_8 : decode cL_lay 8 = .ok (.iconst 0, 1) := by decide +kernel
theorem dL_lay_9 : decode cL_lay 9 = .ok (.iaload, 1) := by decide +kernel
theorem dL_lay_10 : decode cL_lay 10 = .ok (.istore_n 3, 1) := by decide +kernel
theorem dL_lay_11 : decode cL_lay 11 = .ok (.iconst 0, 1) := by decide +kernel
theorem dL_lay_12 : decode cL_lay 12 = .ok (.istore 4, 2) := by decide +kernel
theorem dL_lay_14 : decode cL_lay 14 = .ok (.iload 4, 2) := by decide +kernel
theorem dL_lay_16 : decode cL_lay 16 = .ok (.iload_n 3, 1) := by decide +kernel
theorem dL_lay_17 : decode cL_lay 17 = .ok (.if_icmp .ge 96, 3) := by decide +kernel
theorem dL_lay_20 : decode cL_lay 20 = .ok (.iconst 5, 1) := by decide +kernel
theorem dL_lay_21 : decode cL_lay 21 = .ok (.newarray .int, 2) := by decide +kernel
theorem dL_lay_23 : decode cL_lay 23 = .ok (.astore 5, 2) := by decide +kernel
theorem dL_lay_25 : decode cL_lay 25 = .ok (.iconst 0, 1) := by decide +kernel
theorem dL_lay_26 : decode cL_lay 26 = .ok (.istore 6, 2) := by decide +kernel
theorem dL_lay_28 : decode cL_lay 28 = .ok (.iload 6, 2) := by decide +kernel
theorem dL_lay_30 : decode cL_lay 30 = .ok (.bipush 20, 2) := by decide +kernel
theorem dL_lay_32 : decode cL_lay 32 = .ok (.if_icmp .ge 50, 3) := by decide +kernel
theorem dL_lay_35 : decode cL_lay 35 = .ok (.aload 5, 2) := by decide +kernel
theorem dL_lay_37 : decode cL_lay 37 = .ok (.iload 6, 2) := by decide +kernel
theorem dL_lay_39 : decode cL_lay 39 = .ok (.iconst 4, 1) := by decide +kernel
theorem dL_lay_40 : decode cL_lay 40 = .ok (.idiv, 1) := by decide +kernel
theorem dL_lay_41 : decode cL_lay 41 = .ok (.aload 5, 2) := by decide +kernel
theorem dL_lay_43 : decode cL_lay 43 = .ok (.iload 6, 2) := by decide +kernel
theorem dL_lay_45 : decode cL_lay 45 = .ok (.iconst 4, 1) := by decide +kernel
theorem dL_lay_46 : decode cL_lay 46 = .ok (.idiv, 1) := by decide +kernel
theorem dL_lay_47 : decode cL_lay 47 = .ok (.iaload, 1) := by decide +kernel
theorem dL_lay_48 : decode cL_lay 48 = .ok (.bipush 8, 2) := by decide +kernel
theorem dL_lay_50 : decode cL_lay 50 = .ok (.ishl, 1) := by decide +kernel
theorem dL_lay_51 : decode cL_lay 51 = .ok (.iload 4, 2) := by decide +kernel
theorem dL_lay_53 : decode cL_lay 53 = .ok (.iload 6, 2) := by decide +kernel
theorem dL_lay_55 : decode cL_lay 55 = .ok (.iadd, 1) := by decide +kernel
theorem dL_lay_56 : decode cL_lay 56 = .ok (.iload_n 3, 1) := by decide +kernel
theorem dL_lay_57 : decode cL_lay 57 = .ok (.if_icmp .ge 15, 3) := by decide +kernel
theorem dL_lay_60 : decode cL_lay 60 = .ok (.aload_n 1, 1) := by decide +kernel
theorem dL_lay_61 : decode cL_lay 61 = .ok (.iconst 1, 1) := by decide +kernel
theorem dL_lay_62 : decode cL_lay 62 = .ok (.iload 4, 2) := by decide +kernel
theorem dL_lay_64 : decode cL_lay 64 = .ok (.iadd, 1) := by decide +kernel
theorem dL_lay_65 : decode cL_lay 65 = .ok (.iload 6, 2) := by decide +kernel
theorem dL_lay_67 : decode cL_lay 67 = .ok (.iadd, 1) := by decide +kernel
theorem dL_lay_68 : decode cL_lay 68 = .ok (.iaload, 1) := by decide +kernel
theorem dL_lay_69 : decode cL_lay 69 = .ok (.goto 5, 3) := by decide +kernel
theorem dL_lay_72 : decode cL_lay 72 = .ok (.bipush 32, 2) := by decide +kernel
theorem dL_lay_74 : decode cL_lay 74 = .ok (.ior, 1) := by decide +kernel
theorem dL_lay_75 : decode cL_lay 75 = .ok (.iastore, 1) := by decide +kernel
theorem dL_lay_76 : decode cL_lay 76 = .ok (.iinc 6 1, 3) := by decide +kernel
theorem dL_lay_79 : decode cL_lay 79 = .ok (.goto (-51), 3) := by decide +kernel
theorem dL_lay_82 : decode cL_lay 82 = .ok (.aload_n 0, 1) := by decide +kernel
theorem dL_lay_83 : decode cL_lay 83 = .ok (.aload 5, 2) := by decide +kernel
theorem dL_lay_85 : decode cL_lay 85 = .ok (.iconst 0, 1) := by decide +kernel
theorem dL_lay_86 : decode cL_lay 86 = .ok (.iaload, 1) := by decide +kernel
theorem dL_lay_87 : decode cL_lay 87 = .ok (.aload 5, 2) := by decide +kernel
theorem dL_lay_89 : decode cL_lay 89 = .ok (.iconst 1, 1) := by decide +kernel
theorem dL_lay_90 : decode cL_lay 90 = .ok (.iaload, 1) := by decide +kernel
theorem dL_lay_91 : decode cL_lay 91 = .ok (.aload 5, 2) := by decide +kernel
theorem dL_lay_93 : decode cL_lay 93 = .ok (.iconst 2, 1) := by decide +kernel
theorem dL_lay_94 : decode cL_lay 94 = .ok (.iaload, 1) := by decide +kernel
theorem dL_lay_95 : decode cL_lay 95 = .ok (.aload 5, 2) := by decide +kernel
theorem dL_lay_97 : decode cL_lay 97 = .ok (.iconst 3, 1) := by decide +kernel
theorem dL_lay_98 : decode cL_lay 98 = .ok (.iaload, 1) := by decide +kernel
theorem dL_lay_99 : decode cL_lay 99 = .ok (.aload 5, 2) := by decide +kernel
theorem dL_lay_101 : decode cL_lay 101 = .ok (.iconst 4, 1) := by decide +kernel
theorem dL_lay_102 : decode cL_lay 102 = .ok (.iaload, 1) := by decide +kernel
theorem dL_lay_103 : decode cL_lay 103 = .ok (.invokevirtual 31, 3) := by decide +kernel
theorem dL_lay_106 : decode cL_lay 106 = .ok (.pop, 1) := by decide +kernel
theorem dL_lay_107 : decode cL_lay 107 = .ok (.iinc 4 20, 3) := by decide +kernel
theorem dL_lay_110 : decode cL_lay 110 = .ok (.goto (-96), 3) := by decide +kernel
theorem dL_lay_113 : decode cL_lay 113 = .ok (.aload_n 0, 1) := by decide +kernel
theorem dL_lay_114 : decode cL_lay 114 = .ok (.iload_n 2, 1) := by decide +kernel
theorem dL_lay_115 : decode cL_lay 115 = .ok (.iload_n 3, 1) := by decide +kernel
theorem dL_lay_116 : decode cL_lay 116 = .ok (.iadd, 1) := by decide +kernel
theorem dL_lay_117 : decode cL_lay 117 = .ok (.invokevirtual 35, 3) := by decide +kernel
theorem dL_lay_120 : decode cL_lay 120 = .ok (.iload_n 2, 1) := by decide +kernel
theorem dL_lay_121 : decode cL_lay 121 = .ok (.iload_n 3, 1) := by decide +kernel
theorem dL_lay_122 : decode cL_lay 122 = .ok (.iadd, 1) := by decide +kernel
theorem dL_lay_123 : decode cL_lay 123 = .ok (.if_icmp .ne 7, 3) := by decide +kernel
theorem dL_lay_126 : decode cL_lay 126 = .ok (.iconst 1, 1) := by decide +kernel
theorem dL_lay_127 : decode cL_lay 127 = .ok (.goto 4, 3) := by decide +kernel
theorem dL_lay_130 : decode cL_lay 130 = .ok (.iconst 0, 1) := by decide +kernel
theorem dL_lay_131 : decode cL_lay 131 = .ok (.ireturn, 1) := by decide +kernel
theorem dL_menu_0 : decode cL_menu 0 = .ok (.sipush 1400, 3) := by decide +kernel
theorem dL_menu_3 : decode cL_menu 3 = .ok (.newarray .int, 2) := by decide +kernel
theorem dL_menu_5 : decode cL_menu 5 = .ok (.astore 5, 2) := by decide +kernel
theorem dL_menu_7 : decode cL_menu 7 = .ok (.iconst 1, 1) := by decide +kernel
theorem dL_menu_8 : decode cL_menu 8 = .ok (.istore 6, 2) := by decide +kernel
theorem dL_menu_10 : decode cL_menu 10 = .ok (.iconst 0, 1) := by decide +kernel
theorem dL_menu_11 : decode cL_menu 11 = .ok (.istore 7, 2) := by decide +kernel
theorem dL_menu_13 : decode cL_menu 13 = .ok (.iload 7, 2) := by decide +kernel
theorem dL_menu_15 : decode cL_menu 15 = .ok (.iload_n 2, 1) := by decide +kernel
theorem dL_menu_16 : decode cL_menu 16 = .ok (.if_icmp .ge 174, 3) := by decide +kernel
theorem dL_menu_19 : decode cL_menu 19 = .ok (.aload_n 3, 1) := by decide +kernel
theorem dL_menu_20 : decode cL_menu 20 = .ok (.iload 7, 2) := by decide +kernel
theorem dL_menu_22 : decode cL_menu 22 = .ok (.aload_n 1, 1) := by decide +kernel
theorem dL_menu_23 : decode cL_menu 23 = .ok (.iconst 1, 1) := by decide +kernel
theorem dL_menu_24 : decode cL_menu 24 = .ok (.invokestatic 38, 3) := by decide +kernel
theorem dL_menu_27 : decode cL_menu 27 = .ok (.iconst 2, 1) := by decide +kernel
theorem dL_menu_28 : decode cL_menu 28 = .ok (.iload 7, 2) := by decide +kernel
theorem dL_menu_30 : decode cL_menu 30 = .ok (.imul, 1) := by decide +kernel
theorem dL_menu_31 : decode cL_menu 31 = .ok (.ishr, 1) := by decide +kernel
theorem dL_menu_32 : decode cL_menu 32 = .ok (.sipush 900, 3) := by decide +kernel
theorem dL_menu_35 : decode cL_menu 35 = .ok (.invokestatic 42, 3) := by decide +kernel
theorem dL_menu_38 : decode cL_menu 38 = .ok (.iastore, 1) := by decide +kernel
theorem dL_menu_39 : decode cL_menu 39 = .ok (.aload 5, 2) := by decide +kernel
theorem dL_menu_41 : decode cL_menu 41 = .ok (.ldc 46, 2) := by decide +kernel
theorem dL_menu_43 : decode cL_menu 43 = .ok (.invokestatic 48, 3) := by decide +kernel
theorem dL_menu_46 : decode cL_menu 46 = .ok (.aload 5, 2) := by decide +kernel
theorem dL_menu_48 : decode cL_menu 48 = .ok (.ldc 51, 2) := by decide +kernel
theorem dL_menu_50 : decode cL_menu 50 = .ok (.iload 7, 2) := by decide +kernel
theorem dL_menu_52 : decode cL_menu 52 = .ok (.iload 7, 2) := by decide +kernel
theorem dL_menu_54 : decode cL_menu 54 = .ok (.iconst 1, 1) := by decide +kernel
theorem dL_menu_55 : decode cL_menu 55 = .ok (.iadd, 1) := by decide +kernel
theorem dL_menu_56 : decode cL_menu 56 = .ok (.invokevirtual 53, 3) := by decide +kernel
theorem dL_menu_59 : decode cL_menu 59 = .ok (.invokestatic 48, 3) := by decide +kernel
theorem dL_menu_62 : decode cL_menu 62 = .ok (.aload 5, 2) := by decide +kernel
theorem dL_menu_64 : decode cL_menu 64 = .ok (.ldc 57, 2) := by decide +kernel
theorem dL_menu_66 : decode cL_menu 66 = .ok (.invokestatic 48, 3) := by decide +kernel
theorem dL_menu_69 : decode cL_menu 69 = .ok (.aload 5, 2) := by decide +kernel
theorem dL_menu_71 : decode cL_menu 71 = .ok (.aload_n 3, 1) := by decide +kernel
theorem dL_menu_72 : decode cL_menu 72 = .ok (.iload 7, 2) := by decide +kernel
theorem dL_menu_74 : decode cL_menu 74 = .ok (.iaload, 1) := by decide +kernel
theorem dL_menu_75 : decode cL_menu 75 = .ok (.invokestatic 19, 3) := by decide +kernel
theorem dL_menu_78 : decode cL_menu 78 = .ok (.aload 5, 2) := by decide +kernel
theorem dL_menu_80 : decode cL_menu 80 = .ok (.ldc 59, 2) := by decide +kernel
theorem dL_menu_82 : decode cL_menu 82 = .ok (.invokestatic 48, 3) := by decide +kernel
theorem dL_menu_85 : decode cL_menu 85 = .ok (.aload 5, 2) := by decide +kernel
theorem dL_menu_87 : decode cL_menu 87 = .ok (.ldc 51, 2) := by decide +kernel
theorem dL_menu_89 : decode cL_menu 89 = .ok (.iload 7, 2) := by decide +kernel
theorem dL_menu_91 : decode cL_menu 91 = .ok (.iload 7, 2) := by decide +kernel
theorem dL_menu_93 : decode cL_menu 93 = .ok (.iconst 1, 1) := by decide +kernel
theorem dL_menu_94 : decode cL_menu 94 = .ok (.iadd, 1) := by decide +kernel
theorem dL_menu_95 : decode cL_menu 95 = .ok (.invokevirtual 53, 3) := by decide +kernel
theorem dL_menu_98 : decode cL_menu 98 = .ok (.invokestatic 48, 3) := by decide +kernel
theorem dL_menu_101 : decode cL_menu 101 = .ok (.aload 5, 2) := by decide +kernel
theorem dL_menu_103 : decode cL_menu 103 = .ok (.ldc 61, 2) := by decide +kernel
theorem dL_menu_105 : decode cL_menu 105 = .ok (.invokestatic 48, 3) := by decide +kernel
theorem dL_menu_108 : decode cL_menu 108 = .ok (.aload 5, 2) := by decide +kernel
theorem dL_menu_110 : decode cL_menu 110 = .ok (.ldc 51, 2) := by decide +kernel
theorem dL_menu_112 : decode cL_menu 112 = .ok (.iload 7, 2) := by decide +kernel
theorem dL_menu_114 : decode cL_menu 114 = .ok (.iload 7, 2) := by decide +kernel
theorem dL_menu_116 : decode cL_menu 116 = .ok (.iconst 1, 1) := by decide +kernel
theorem dL_menu_117 : decode cL_menu 117 = .ok (.iadd, 1) := by decide +kernel
theorem dL_menu_118 : decode cL_menu 118 = .ok (.invokevirtual 53, 3) := by decide +kernel
theorem dL_menu_121 : decode cL_menu 121 = .ok (.invokestatic 48, 3) := by decide +kernel
theorem dL_menu_124 : decode cL_menu 124 = .ok (.iload 7, 2) := by decide +kernel
theorem dL_menu_126 : decode cL_menu 126 = .ok (.ifCond .eq 20, 3) := by decide +kernel
theorem dL_menu_129 : decode cL_menu 129 = .ok (.aload_n 1, 1) := by decide +kernel
theorem dL_menu_130 : decode cL_menu 130 = .ok (.iconst 2, 1) := by decide +kernel
theorem dL_menu_131 : decode cL_menu 131 = .ok (.invokestatic 38, 3) := by decide +kernel
theorem dL_menu_134 : decode cL_menu 134 = .ok (.iconst 2, 1) := by decide +kernel
theorem dL_menu_135 : decode cL_menu 135 = .ok (.iload 7, 2) := by decide +kernel
theorem dL_menu_137 : decode cL_menu 137 = .ok (.imul, 1) := by decide +kernel
theorem dL_menu_138 : decode cL_menu 138 = .ok (.ishr, 1) := by decide +kernel
theorem dL_menu_139 : decode cL_menu 139 = .ok (.iconst 2, 1) := by decide +kernel
theorem dL_menu_140 : decode cL_menu 140 = .ok (.invokestatic 42, 3) := by decide +kernel
theorem dL_menu_143 : decode cL_menu 143 = .ok (.ifCond .ne 7, 3) := by decide +kernel
theorem dL_menu_146 : decode cL_menu 146 = .ok (.iconst 1, 1) := by decide +kernel
theorem dL_menu_147 : decode cL_menu 147 = .ok (.goto 4, 3) := by decide +kernel
theorem dL_menu_150 : decode cL_menu 150 = .ok (.iconst 0, 1) := by decide +kernel
theorem dL_menu_151 : decode cL_menu 151 = .ok (.istore 8, 2) := by decide +kernel
theorem dL_menu_153 : decode cL_menu 153 = .ok (.iload 8, 2) := by decide +kernel
theorem dL_menu_155 : decode cL_menu 155 = .ok (.ifCond .eq 12, 3) := by decide +kernel
theorem dL_menu_158 : decode cL_menu 158 = .ok (.iload 6, 2) := by decide +kernel
theorem dL_menu_160 : decode cL_menu 160 = .ok (.iconst 1, 1) := by decide +kernel
theorem dL_menu_161 : decode cL_menu 161 = .ok (.iload 7, 2) := by decide +kernel
theorem dL_menu_163 : decode cL_menu 163 = .ok (.ishl, 1) := by decide +kernel
theorem dL_menu_164 : decode cL_menu 164 = .ok (.ior, 1) := by decide +kernel
theorem dL_menu_165 : decode cL_menu 165 = .ok (.istore 6, 2) := by decide +kernel
theorem dL_menu_167 : decode cL_menu 167 = .ok (.aload 5, 2) := by decide +kernel
theorem dL_menu_169 : decode cL_menu 169 = .ok (.iload 8, 2) := by decide +kernel
theorem dL_menu_171 : decode cL_menu 171 = .ok (.ifCond .eq 8, 3) := by decide +kernel
theorem dL_menu_174 : decode cL_menu 174 = .ok (.ldc 63, 2) := by decide +kernel
theorem dL_menu_176 : decode cL_menu 176 = .ok (.goto 5, 3) := by decide +kernel
theorem dL_menu_179 : decode cL_menu 179 = .ok (.ldc 65, 2) := by decide +kernel
theorem dL_menu_181 : decode cL_menu 181 = .ok (.invokestatic 48, 3) := by decide +kernel
theorem dL_menu_184 : decode cL_menu 184 = .ok (.iinc 7 1, 3) := by decide +kernel
theorem dL_menu_187 : decode cL_menu 187 = .ok (.goto (-174), 3) := by decide +kernel
theorem dL_menu_190 : decode cL_menu 190 = .ok (.aload 5, 2) := by decide +kernel
theorem dL_menu_192 : decode cL_menu 192 = .ok (.ldc 67, 2) := by decide +kernel
theorem dL_menu_194 : decode cL_menu 194 = .ok (.invokestatic 48, 3) := by decide +kernel
theorem dL_menu_197 : decode cL_menu 197 = .ok (.iconst 1, 1) := by decide +kernel
theorem dL_menu_198 : decode cL_menu 198 = .ok (.aload_n 1, 1) := by decide +kernel
theorem dL_menu_199 : decode cL_menu 199 = .ok (.iconst 3, 1) := by decide +kernel
theorem dL_menu_200 : decode cL_menu 200 = .ok (.invokestatic 38, 3) := by decide +kernel
theorem dL_menu_203 : decode cL_menu 203 = .ok (.iconst 5, 1) := by decide +kernel
theorem dL_menu_204 : decode cL_menu 204 = .ok (.invokestatic 42, 3) := by decide +kernel
theorem dL_menu_207 : decode cL_menu 207 = .ok (.iadd, 1) := by decide +kernel
theorem dL_menu_208 : decode cL_menu 208 = .ok (.istore 7, 2) := by decide +kernel
theorem dL_menu_210 : decode cL_menu 210 = .ok (.iconst 0, 1) := by decide +kernel
theorem dL_menu_211 : decode cL_menu 211 = .ok (.istore 8, 2) := by decide +kernel
theorem dL_menu_213 : decode cL_menu 213 = .ok (.iload 8, 2) := by decide +kernel
theorem dL_menu_215 : decode cL_menu 215 = .ok (.iload 7, 2) := by decide +kernel
theorem dL_menu_217 : decode cL_menu 217 = .ok (.if_icmp .ge 356, 3) := by decide +kernel
theorem dL_menu_220 : decode cL_menu 220 = .ok (.aload_n 1, 1) := by decide +kernel
theorem dL_menu_221 : decode cL_menu 221 = .ok (.iconst 4, 1) := by decide +kernel
theorem dL_menu_222 : decode cL_menu 222 = .ok (.iload 8, 2) := by decide +kernel
theorem dL_menu_224 : decode cL_menu 224 = .ok (.iadd, 1) := by decide +kernel
theorem dL_menu_225 : decode cL_menu 225 = .ok (.invokestatic 38, 3) := by decide +kernel
theorem dL_menu_228 : decode cL_menu 228 = .ok (.istore 9, 2) := by decide +kernel
theorem dL_menu_230 : decode cL_menu 230 = .ok (.iload 9, 2) := by decide +kernel
theorem dL_menu_232 : decode cL_menu 232 = .ok (.iconst 4, 1) := by decide +kernel
theorem dL_menu_233 : decode cL_menu 233 = .ok (.invokestatic 42, 3) := by decide +kernel
theorem dL_menu_236 : decode cL_menu 236 = .ok (.istore 10, 2) := by decide +kernel
theorem dL_menu_238 : decode cL_menu 238 = .ok (.iload 10, 2) := by decide +kernel
theorem dL_menu_240 : decode cL_menu 240 = .ok (.ifCond .ne 16, 3) := by decide +kernel
theorem dL_menu_243 : decode cL_menu 243 = .ok (.iconst 1, 1) := by decide +kernel
theorem dL_menu_244 : decode cL_menu 244 = .ok (.iload 9, 2) := by decide +kernel
theorem dL_menu_246 : decode cL_menu 246 = .ok (.iconst 2, 1) := by decide +kernel
theorem dL_menu_247 : decode cL_menu 247 = .ok (.ishr, 1) := by decide +kernel
theorem dL_menu_248 : decode cL_menu 248 = .ok (.iconst 4, 1) := by decide +kernel
theorem dL_menu_249 : decode cL_menu 249 = .ok (.invokestatic 42, 3) := by decide +kernel
theorem dL_menu_252 : decode cL_menu 252 = .ok (.iadd, 1) := by decide +kernel
theorem dL_menu_253 : decode cL_menu 253 = .ok (.goto 49, 3) := by decide +kernel
theorem dL_menu_256 : decode cL_menu 256 = .ok (.iload 10, 2) := by decide +kernel
theorem dL_menu_258 : decode cL_menu 258 = .ok (.iconst 1, 1) := by decide +kernel
theorem dL_menu_259 : decode cL_menu 259 = .ok (.if_icmp .ne 14, 3) := by decide +kernel
theorem dL_menu_262 : decode cL_menu 262 = .ok (.iload 9, 2) := by decide +kernel
theorem dL_menu_264 : decode cL_menu 264 = .ok (.iconst 2, 1) := by decide +kernel
theorem dL_menu_265 : decode cL_menu 265 = .ok (.ishr, 1) := by decide +kernel
theorem dL_menu_266 : decode cL_menu 266 = .ok (.iconst 4, 1) := by decide +kernel
theorem dL_menu_267 : decode cL_menu 267 = .ok (.invokestatic 42, 3) := by decide +kernel
theorem dL_menu_270 : decode cL_menu 270 = .ok (.goto 32, 3) := by decide +kernel
theorem dL_menu_273 : decode cL_menu 273 = .ok (.iload 10, 2) := by decide +kernel
theorem dL_menu_275 : decode cL_menu 275 = .ok (.iconst 2, 1) := by decide +kernel
theorem dL_menu_276 : decode cL_menu 276 = .ok (.if_icmp .ne 16, 3) := by decide +kernel
theorem dL_menu_279 : decode cL_menu 279 = .ok (.iconst 1, 1) := by decide +kernel
theorem dL_menu_280 : decode cL_menu 280 = .ok (.iload 9, 2) := by decide +kernel
theorem dL_menu_282 : decode cL_menu 282 = .ok (.iconst 2, 1) := by decide +kernel
theorem dL_menu_283 : decode cL_menu 283 = .ok (.ishr, 1) := by decide +kernel
theorem dL_menu_284 : decode cL_menu 284 = .ok (.iconst 4, 1) := by decide +kernel
theorem dL_menu_285 : decode cL_menu 285 = .ok (.invokestatic 42, 3) := by decide +kernel
theorem dL_menu_288 : decode cL_menu 288 = .ok (.iadd, 1) := by decide +kernel
theorem dL_menu_289 : decode cL_menu 289 = .ok (.goto 13, 3) := by decide +kernel
theorem dL_menu_292 : decode cL_menu 292 = .ok (.iload 9, 2) := by decide +kernel
theorem dL_menu_294 : decode cL_menu 294 = .ok (.iconst 2, 1) := by decide +kernel
theorem dL_menu_295 : decode cL_menu 295 = .ok (.ishr, 1) := by decide +kernel
theorem dL_menu_296 : decode cL_menu 296 = .ok (.sipush 900, 3) := by decide +kernel
theorem dL_menu_299 : decode cL_menu 299 = .ok (.invokestatic 42, 3) := by decide +kernel
theorem dL_menu_302 : decode cL_menu 302 = .ok (.istore 11, 2) := by decide +kernel
theorem dL_menu_304 : decode cL_menu 304 = .ok (.iload 10, 2) := by decide +kernel
theorem dL_menu_306 : decode cL_menu 306 = .ok (.ifCond .ne 7, 3) := by decide +kernel
theorem dL_menu_309 : decode cL_menu 309 = .ok (.iconst 0, 1) := by decide +kernel
theorem dL_menu_310 : decode cL_menu 310 = .ok (.goto 37, 3) := by decide +kernel
theorem dL_menu_313 : decode cL_menu 313 = .ok (.iload 10, 2) := by decide +kernel
theorem dL_menu_315 : decode cL_menu 315 = .ok (.iconst 3, 1) := by decide +kernel
theorem dL_menu_316 : decode cL_menu 316 = .ok (.if_icmp .ne 20, 3) := by decide +kernel
theorem dL_menu_319 : decode cL_menu 319 = .ok (.iload 11, 2) := by decide +kernel
theorem dL_menu_321 : decode cL_menu 321 = .ok (.iload 9, 2) := by decide +kernel
theorem dL_menu_323 : decode cL_menu 323 = .ok (.bipush 12, 2) := by decide +kernel
theorem dL_menu_325 : decode cL_menu 325 = .ok (.ishr, 1) := by decide +kernel
theorem dL_menu_326 : decode cL_menu 326 = .ok (.sipush 900, 3) := by decide +kernel
theorem dL_menu_329 : decode cL_menu 329 = .ok (.invokestatic 42, 3) := by decide +kernel
theorem dL_menu_332 : decode cL_menu 332 = .ok (.iadd, 1) := by decide +kernel
theorem dL_menu_333 : decode cL_menu 333 = .ok (.goto 14, 3) := by decide +kernel
theorem dL_menu_336 : decode cL_menu 336 = .ok (.iconst 1, 1) := by decide +kernel
theorem dL_menu_337 : decode cL_menu 337 = .ok (.iload 9, 2) := by decide +kernel
theorem dL_menu_339 : decode cL_menu 339 = .ok (.bipush 12, 2) := by decide +kernel
theorem dL_menu_341 : decode cL_menu 341 = .ok (.ishr, 1) := by decide +kernel
theorem dL_menu_342 : decode cL_menu 342 = .ok (.iconst 5, 1) := by decide +kernel
theorem dL_menu_343 : decode cL_menu 343 = .ok (.invokestatic 42, 3) := by decide +kernel
theorem dL_menu_346 : decode cL_menu 346 = .ok (.iadd, 1) := by decide +kernel
theorem dL_menu_347 : decode cL_menu 347 = .ok (.istore 12, 2) := by decide +kernel
theorem dL_menu_349 : decode cL_menu 349 = .ok (.iload 9, 2) := by decide +kernel
theorem dL_menu_351 : decode cL_menu 351 = .ok (.bipush 16, 2) := by decide +kernel
theorem dL_menu_353 : decode cL_menu 353 = .ok (.ishr, 1) := by decide +kernel
theorem dL_menu_354 : decode cL_menu 354 = .ok (.iconst 2, 1) := by decide +kernel
theorem dL_menu_355 : decode cL_menu 355 = .ok (.invokestatic 42, 3) := by decide +kernel
theorem dL_menu_358 : decode cL_menu 358 = .ok (.ifCond .ne 7, 3) := by decide +kernel
theorem dL_menu_361 : decode cL_menu 361 = .ok (.iconst 1, 1) := by decide +kernel
theorem dL_menu_362 : decode cL_menu 362 = .ok (.goto 4, 3) := by decide +kernel
theorem dL_menu_365 : decode cL_menu 365 = .ok (.iconst 0, 1) := by decide +kernel
theorem dL_menu_366 : decode cL_menu 366 = .ok (.istore 13, 2) := by decide +kernel
theorem dL_menu_368 : decode cL_menu 368 = .ok (.iload 9, 2) := by decide +kernel
theorem dL_menu_370 : decode cL_menu 370 = .ok (.bipush 17, 2) := by decide +kernel
theorem dL_menu_372 : decode cL_menu 372 = .ok (.ishr, 1) := by decide +kernel
theorem dL_menu_373 : decode cL_menu 373 = .ok (.iload_n 2, 1) := by decide +kernel
theorem dL_menu_374 : decode cL_menu 374 = .ok (.invokestatic 42, 3) := by decide +kernel
theorem dL_menu_377 : decode cL_menu 377 = .ok (.istore 14, 2) := by decide +kernel
theorem dL_menu_379 : decode cL_menu 379 = .ok (.iconst 4, 1) := by decide +kernel
theorem dL_menu_380 : decode cL_menu 380 = .ok (.anewarray 10, 3) := by decide +kernel
theorem dL_menu_383 : decode cL_menu 383 = .ok (.dup, 1) := by decide +kernel
theorem dL_menu_384 : decode cL_menu 384 = .ok (.iconst 0, 1) := by decide +kernel
theorem dL_menu_385 : decode cL_menu 385 = .ok (.ldc 69, 2) := by decide +kernel
theorem dL_menu_387 : decode cL_menu 387 = .ok (.aastore, 1) := by decide +kernel
theorem dL_menu_388 : decode cL_menu 388 = .ok (.dup, 1) := by decide +kernel
theorem dL_menu_389 : decode cL_menu 389 = .ok (.iconst 1, 1) := by decide +kernel
theorem dL_menu_390 : decode cL_menu 390 = .ok (.ldc 71, 2) := by decide +kernel
theorem dL_menu_392 : decode cL_menu 392 = .ok (.aastore, 1) := by decide +kernel
theorem dL_menu_393 : decode cL_menu 393 = .ok (.dup, 1) := by decide +kernel
theorem dL_menu_394 : decode cL_menu 394 = .ok (.iconst 2, 1) := by decide +kernel
theorem dL_menu_395 : decode cL_menu 395 = .ok (.ldc 73, 2) := by decide +kernel
theorem dL_menu_397 : decode cL_menu 397 = .ok (.aastore, 1) := by decide +kernel
theorem dL_menu_398 : decode cL_menu 398 = .ok (.dup, 1) := by decide +kernel
theorem dL_menu_399 : decode cL_menu 399 = .ok (.iconst 3, 1) := by decide +kernel
theorem dL_menu_400 : decode cL_menu 400 = .ok (.ldc 75, 2) := by decide +kernel
theorem dL_menu_402 : decode cL_menu 402 = .ok (.aastore, 1) := by decide +kernel
theorem dL_menu_403 : decode cL_menu 403 = .ok (.astore 15, 2) := by decide +kernel
theorem dL_menu_405 : decode cL_menu 405 = .ok (.aload 5, 2) := by decide +kernel
theorem dL_menu_407 : decode cL_menu 407 = .ok (.aload 15, 2) := by decide +kernel
theorem dL_menu_409 : decode cL_menu 409 = .ok (.iload 10, 2) := by decide +kernel
theorem dL_menu_411 : decode cL_menu 411 = .ok (.aaload, 1) := by decide +kernel
theorem dL_menu_412 : decode cL_menu 412 = .ok (.invokestatic 48, 3) := by decide +kernel
theorem dL_menu_415 : decode cL_menu 415 = .ok (.aload 5, 2) := by decide +kernel
theorem dL_menu_417 : decode cL_menu 417 = .ok (.iload 11, 2) := by decide +kernel
theorem dL_menu_419 : decode cL_menu 419 = .ok (.invokestatic 19, 3) := by decide +kernel
theorem dL_menu_422 : decode cL_menu 422 = .ok (.iload 10, 2) := by decide +kernel
theorem dL_menu_424 : decode cL_menu 424 = .ok (.iconst 3, 1) := by decide +kernel
theorem dL_menu_425 : decode cL_menu 425 = .ok (.if_icmp .ge 41, 3) := by decide +kernel
theorem dL_menu_428 : decode cL_menu 428 = .ok (.aload 5, 2) := by decide +kernel
theorem dL_menu_430 : decode cL_menu 430 = .ok (.iload 13, 2) := by decide +kernel
theorem dL_menu_432 : decode cL_menu 432 = .ok (.ifCond .eq 8, 3) := by decide +kernel
theorem dL_menu_435 : decode cL_menu 435 = .ok (.ldc 77, 2) := by decide +kernel
theorem dL_menu_437 : decode cL_menu 437 = .ok (.goto 5, 3) := by decide +kernel
theorem dL_menu_440 : decode cL_menu 440 = .ok (.ldc 79, 2) := by decide +kernel
theorem dL_menu_442 : decode cL_menu 442 = .ok (.invokestatic 48, 3) := by decide +kernel
theorem dL_menu_445 : decode cL_menu 445 = .ok (.iload 13, 2) := by decide +kernel
theorem dL_menu_447 : decode cL_menu 447 = .ok (.ifCond .ne 19, 3) := by decide +kernel
theorem dL_menu_450 : decode cL_menu 450 = .ok (.aload 5, 2) := by decide +kernel
theorem dL_menu_452 : decode cL_menu 452 = .ok (.ldc 51, 2) := by decide +kernel
theorem dL_menu_454 : decode cL_menu 454 = .ok (.iload 14, 2) := by decide +kernel
theorem dL_menu_456 : decode cL_menu 456 = .ok (.iload 14, 2) := by decide +kernel
theorem dL_menu_458 : decode cL_menu 458 = .ok (.iconst 1, 1) := by decide +kernel
theorem dL_menu_459 : decode cL_menu 459 = .ok (.iadd, 1) := by decide +kernel
theorem dL_menu_460 : decode cL_menu 460 = .ok (.invokevirtual 53, 3) := by decide +kernel
theorem dL_menu_463 : decode cL_menu 463 = .ok (.invokestatic 48, 3) := by decide +kernel
theorem dL_menu_466 : decode cL_menu 466 = .ok (.iload 10, 2) := by decide +kernel
theorem dL_menu_468 : decode cL_menu 468 = .ok (.ifCond .le 28, 3) := by decide +kernel
theorem dL_menu_471 : decode cL_menu 471 = .ok (.aload 5, 2) := by decide +kernel
theorem dL_menu_473 : decode cL_menu 473 = .ok (.iload 10, 2) := by decide +kernel
theorem dL_menu_475 : decode cL_menu 475 = .ok (.iconst 3, 1) := by decide +kernel
theorem dL_menu_476 : decode cL_menu 476 = .ok (.if_icmp .ne 8, 3) := by decide +kernel
theorem dL_menu_479 : decode cL_menu 479 = .ok (.ldc 81, 2) := by decide +kernel
theorem dL_menu_481 : decode cL_menu 481 = .ok (.goto 5, 3) := by decide +kernel
theorem dL_menu_484 : decode cL_menu 484 = .ok (.ldc 83, 2) := by decide +kernel
theorem dL_menu_486 : decode cL_menu 486 = .ok (.invokestatic 48, 3) := by decide +kernel
theorem dL_menu_489 : decode cL_menu 489 = .ok (.aload 5, 2) := by decide +kernel
theorem dL_menu_491 : decode cL_menu 491 = .ok (.iload 12, 2) := by decide +kernel
theorem dL_menu_493 : decode cL_menu 493 = .ok (.invokestatic 19, 3) := by decide +kernel
theorem dL_menu_496 : decode cL_menu 496 = .ok (.aload 5, 2) := by decide +kernel
theorem dL_menu_498 : decode cL_menu 498 = .ok (.ldc 65, 2) := by decide +kernel
theorem dL_menu_500 : decode cL_menu 500 = .ok (.invokestatic 48, 3) := by decide +kernel
theorem dL_menu_503 : decode cL_menu 503 = .ok (.aload 4, 2) := by decide +kernel
theorem dL_menu_505 : decode cL_menu 505 = .ok (.iconst 4, 1) := by decide +kernel
theorem dL_menu_506 : decode cL_menu 506 = .ok (.iload 8, 2) := by decide +kernel
theorem dL_menu_508 : decode cL_menu 508 = .ok (.imul, 1) := by decide +kernel
theorem dL_menu_509 : decode cL_menu 509 = .ok (.iload 10, 2) := by decide +kernel
theorem dL_menu_511 : decode cL_menu 511 = .ok (.iastore, 1) := by decide +kernel
theorem dL_menu_512 : decode cL_menu 512 = .ok (.aload 4, 2) := by decide +kernel
theorem dL_menu_514 : decode cL_menu 514 = .ok (.iconst 4, 1) := by decide +kernel
theorem dL_menu_515 : decode cL_menu 515 = .ok (.iload 8, 2) := by decide +kernel
theorem dL_menu_517 : decode cL_menu 517 = .ok (.imul, 1) := by decide +kernel
theorem dL_menu_518 : decode cL_menu 518 = .ok (.iconst 1, 1) := by decide +kernel
theorem dL_menu_519 : decode cL_menu 519 = .ok (.iadd, 1) := by decide +kernel
theorem dL_menu_520 : decode cL_menu 520 = .ok (.iload 11, 2) := by decide +kernel
theorem dL_menu_522 : decode cL_menu 522 = .ok (.iastore, 1) := by decide +kernel
theorem dL_menu_523 : decode cL_menu 523 = .ok (.aload 4, 2) := by decide +kernel
theorem dL_menu_525 : decode cL_menu 525 = .ok (.iconst 4, 1) := by decide +kernel
theorem dL_menu_526 : decode cL_menu 526 = .ok (.iload 8, 2) := by decide +kernel
theorem dL_menu_528 : decode cL_menu 528 = .ok (.imul, 1) := by decide +kernel
theorem dL_menu_529 : decode cL_menu 529 = .ok (.iconst 2, 1) := by decide +kernel
theorem dL_menu_530 : decode cL_menu 530 = .ok (.iadd, 1) := by decide +kernel
theorem dL_menu_531 : decode cL_menu 531 = .ok (.iload 12, 2) := by decide +kernel
theorem dL_menu_533 : decode cL_menu 533 = .ok (.iastore, 1) := by decide +kernel
theorem dL_menu_534 : decode cL_menu 534 = .ok (.aload 4, 2) := by decide +kernel
theorem dL_menu_536 : decode cL_menu 536 = .ok (.iconst 4, 1) := by decide +kernel
theorem dL_menu_537 : decode cL_menu 537 = .ok (.iload 8, 2) := by decide +kernel
theorem dL_menu_539 : decode cL_menu 539 = .ok (.imul, 1) := by decide +kernel
theorem dL_menu_540 : decode cL_menu 540 = .ok (.iconst 3, 1) := by decide +kernel
theorem dL_menu_541 : decode cL_menu 541 = .ok (.iadd, 1) := by decide +kernel
theorem dL_menu_542 : decode cL_menu 542 = .ok (.iload 10, 2) := by decide +kernel
theorem dL_menu_544 : decode cL_menu 544 = .ok (.iconst 3, 1) := by decide +kernel
theorem dL_menu_545 : decode cL_menu 545 = .ok (.if_icmp .ne 7, 3) := by decide +kernel
theorem dL_menu_548 : decode cL_menu 548 = .ok (.iconst 0, 1) := by decide +kernel
theorem dL_menu_549 : decode cL_menu 549 = .ok (.goto 17, 3) := by decide +kernel
theorem dL_menu_552 : decode cL_menu 552 = .ok (.iload 13, 2) := by decide +kernel
theorem dL_menu_554 : decode cL_menu 554 = .ok (.ifCond .eq 8, 3) := by decide +kernel
theorem dL_menu_557 : decode cL_menu 557 = .ok (.iload 6, 2) := by decide +kernel
theorem dL_menu_559 : decode cL_menu 559 = .ok (.goto 7, 3) := by decide +kernel
theorem dL_menu_562 : decode cL_menu 562 = .ok (.iconst 1, 1) := by decide +kernel
theorem dL_menu_563 : decode cL_menu 563 = .ok (.iload 14, 2) := by decide +kernel
theorem dL_menu_565 : decode cL_menu 565 = .ok (.ishl, 1) := by decide +kernel
theorem dL_menu_566 : decode cL_menu 566 = .ok (.iastore, 1) := by decide +kernel
theorem dL_menu_567 : decode cL_menu 567 = .ok (.iinc 8 1, 3) := by decide +kernel
theorem dL_menu_570 : decode cL_menu 570 = .ok (.goto (-357), 3) := by decide +kernel
theorem dL_menu_573 : decode cL_menu 573 = .ok (.aload_n 0, 1) := by decide +kernel
theorem dL_menu_574 : decode cL_menu 574 = .ok (.aload 5, 2) := by decide +kernel
theorem dL_menu_576 : decode cL_menu 576 = .ok (.invokestatic 85, 3) := by decide +kernel
theorem dL_menu_579 : decode cL_menu 579 = .ok (.ifCond .eq 15, 3) := by decide +kernel
theorem dL_menu_582 : decode cL_menu 582 = .ok (.aload_n 0, 1) := by decide +kernel
theorem dL_menu_583 : decode cL_menu 583 = .ok (.invokevirtual 89, 3) := by decide +kernel
theorem dL_menu_586 : decode cL_menu 586 = .ok (.ifCond .ne 8, 3) := by decide +kernel
theorem dL_menu_589 : decode cL_menu 589 = .ok (.iload 7, 2) := by decide +kernel
theorem dL_menu_591 : decode cL_menu 591 = .ok (.goto 4, 3) := by decide +kernel
theorem dL_menu_594 : decode cL_menu 594 = .ok (.iconst (-1), 1) := by decide +kernel
theorem dL_menu_595 : decode cL_menu 595 = .ok (.ireturn, 1) := by decide +kernel
theorem dL_law_0 : decode cL_law 0 = .ok (.new 26, 3) := by decide +kernel
theorem dL_law_3 : decode cL_law 3 = .ok (.dup, 1) := by decide +kernel
theorem dL_law_4 : decode cL_law 4 = .ok (.invokespecial 92, 3) := by decide +kernel
theorem dL_law_7 : decode cL_law 7 = .ok (.astore_n 1, 1) := by decide +kernel
theorem dL_law_8 : decode cL_law 8 = .ok (.iconst 2, 1) := by decide +kernel
theorem dL_law_9 : decode cL_law 9 = .ok (.aload_n 0, 1) := by decide +kernel
theorem dL_law_10 : decode cL_law 10 = .ok (.iconst 0, 1) := by decide +kernel
theorem dL_law_11 : decode cL_law 11 = .ok (.invokestatic 38, 3) := by decide +kernel
theorem dL_law_14 : decode cL_law 14 = .ok (.iconst 5, 1) := by decide +kernel
theorem dL_law_15 : decode cL_law 15 = .ok (.invokestatic 42, 3) := by decide +kernel
theorem dL_law_18 : decode cL_law 18 = .ok (.iadd, 1) := by decide +kernel
theorem dL_law_19 : decode cL_law 19 = .ok (.istore_n 2, 1) := by decide +kernel
theorem dL_law_20 : decode cL_law 20 = .ok (.bipush 6, 2) := by decide +kernel
theorem dL_law_22 : decode cL_law 22 = .ok (.newarray .int, 2) := by decide +kernel
theorem dL_law_24 : decode cL_law 24 = .ok (.astore_n 3, 1) := by decide +kernel
theorem dL_law_25 : decode cL_law 25 = .ok (.bipush 24, 2) := by decide +kernel
theorem dL_law_27 : decode cL_law 27 = .ok (.newarray .int, 2) := by decide +kernel
theorem dL_law_29 : decode cL_law 29 = .ok (.astore 4, 2) := by decide +kernel
theorem dL_law_31 : decode cL_law 31 = .ok (.aload_n 1, 1) := by decide +kernel
theorem dL_law_32 : decode cL_law 32 = .ok (.aload_n 0, 1) := by decide +kernel
theorem dL_law_33 : decode cL_law 33 = .ok (.iload_n 2, 1) := by decide +kernel
theorem dL_law_34 : decode cL_law 34 = .ok (.aload_n 3, 1) := by decide +kernel
theorem dL_law_35 : decode cL_law 35 = .ok (.aload 4, 2) := by decide +kernel
theorem dL_law_37 : decode cL_law 37 = .ok (.invokestatic 93, 3) := by decide +kernel
theorem dL_law_40 : decode cL_law 40 = .ok (.istore 5, 2) := by decide +kernel
theorem dL_law_42 : decode cL_law 42 = .ok (.iload 5, 2) := by decide +kernel
theorem dL_law_44 : decode cL_law 44 = .ok (.ifCond .ge 5, 3) := by decide +kernel
theorem dL_law_47 : decode cL_law 47 = .ok (.iconst 0, 1) := by decide +kernel
theorem dL_law_48 : decode cL_law 48 = .ok (.ireturn, 1) := by decide +kernel
theorem dL_law_49 : decode cL_law 49 = .ok (.iconst 0, 1) := by decide +kernel
theorem dL_law_50 : decode cL_law 50 = .ok (.istore 6, 2) := by decide +kernel
theorem dL_law_52 : decode cL_law 52 = .ok (.iload 6, 2) := by decide +kernel
theorem dL_law_54 : decode cL_law 54 = .ok (.iconst 4, 1) := by decide +kernel
theorem dL_law_55 : decode cL_law 55 = .ok (.if_icmp .ge 373, 3) := by decide +kernel
theorem dL_law_58 : decode cL_law 58 = .ok (.iconst 1, 1) := by decide +kernel
theorem dL_law_59 : decode cL_law 59 = .ok (.aload_n 0, 1) := by decide +kernel
theorem dL_law_60 : decode cL_law 60 = .ok (.bipush 9, 2) := by decide +kernel
theorem dL_law_62 : decode cL_law 62 = .ok (.invokestatic 38, 3) := by decide +kernel
theorem dL_law_65 : decode cL_law 65 = .ok (.iconst 3, 1) := by decide +kernel
theorem dL_law_66 : decode cL_law 66 = .ok (.iload 6, 2) := by decide +kernel
theorem dL_law_68 : decode cL_law 68 = .ok (.imul, 1) := by decide +kernel
theorem dL_law_69 : decode cL_law 69 = .ok (.ishr, 1) := by decide +kernel
theorem dL_law_70 : decode cL_law 70 = .ok (.bipush 8, 2) := by decide +kernel
theorem dL_law_72 : decode cL_law 72 = .ok (.invokestatic 42, 3) := by decide +kernel
theorem dL_law_75 : decode cL_law 75 = .ok (.iadd, 1) := by decide +kernel
theorem dL_law_76 : decode cL_law 76 = .ok (.istore 7, 2) := by decide +kernel
theorem dL_law_78 : decode cL_law 78 = .ok (.aload_n 1, 1) := by decide +kernel
theorem dL_law_79 : decode cL_law 79 = .ok (.iload 7, 2) := by decide +kernel
theorem dL_law_81 : decode cL_law 81 = .ok (.invokevirtual 97, 3) := by decide +kernel
theorem dL_law_84 : decode cL_law 84 = .ok (.istore 8, 2) := by decide +kernel
theorem dL_law_86 : decode cL_law 86 = .ok (.iload 8, 2) := by decide +kernel
theorem dL_law_88 : decode cL_law 88 = .ok (.aload_n 1, 1) := by decide +kernel
theorem dL_law_89 : decode cL_law 89 = .ok (.invokevirtual 100, 3) := by decide +kernel
theorem dL_law_92 : decode cL_law 92 = .ok (.if_icmp .ne 14, 3) := by decide +kernel
theorem dL_law_95 : decode cL_law 95 = .ok (.aload_n 1, 1) := by decide +kernel
theorem dL_law_96 : decode cL_law 96 = .ok (.bipush 6, 2) := by decide +kernel
theorem dL_law_98 : decode cL_law 98 = .ok (.invokevirtual 25, 3) := by decide +kernel
theorem dL_law_101 : decode cL_law 101 = .ok (.iload 7, 2) := by decide +kernel
theorem dL_law_103 : decode cL_law 103 = .ok (.if_icmp .eq 5, 3) := by decide +kernel
theorem dL_law_106 : decode cL_law 106 = .ok (.iconst 0, 1) := by decide +kernel
theorem dL_law_107 : decode cL_law 107 = .ok (.ireturn, 1) := by decide +kernel
theorem dL_law_108 : decode cL_law 108 = .ok (.iconst 0, 1) := by decide +kernel
theorem dL_law_109 : decode cL_law 109 = .ok (.istore 9, 2) := by decide +kernel
theorem dL_law_111 : decode cL_law 111 = .ok (.iconst 0, 1) := by decide +kernel
theorem dL_law_112 : decode cL_law 112 = .ok (.istore 10, 2) := by decide +kernel
theorem dL_law_114 : decode cL_law 114 = .ok (.iload 10, 2) := by decide +kernel
theorem dL_law_116 : decode cL_law 116 = .ok (.iload 7, 2) := by decide +kernel
theorem dL_law_118 : decode cL_law 118 = .ok (.if_icmp .ge 71, 3) := by decide +kernel
theorem dL_law_121 : decode cL_law 121 = .ok (.iconst 0, 1) := by decide +kernel
theorem dL_law_122 : decode cL_law 122 = .ok (.istore 11, 2) := by decide +kernel
theorem dL_law_124 : decode cL_law 124 = .ok (.iload 11, 2) := by decide +kernel
theorem dL_law_126 : decode cL_law 126 = .ok (.iconst 2, 1) := by decide +kernel
theorem dL_law_127 : decode cL_law 127 = .ok (.if_icmp .ge 56, 3) := by decide +kernel
theorem dL_law_130 : decode cL_law 130 = .ok (.aload_n 1, 1) := by decide +kernel
theorem dL_law_131 : decode cL_law 131 = .ok (.iload 10, 2) := by decide +kernel
theorem dL_law_133 : decode cL_law 133 = .ok (.iload 11, 2) := by decide +kernel
theorem dL_law_135 : decode cL_law 135 = .ok (.invokevirtual 103, 3) := by decide +kernel
theorem dL_law_138 : decode cL_law 138 = .ok (.istore 12, 2) := by decide +kernel
theorem dL_law_140 : decode cL_law 140 = .ok (.iload 9, 2) := by decide +kernel
theorem dL_law_142 : decode cL_law 142 = .ok (.iload 12, 2) := by decide +kernel
theorem dL_law_144 : decode cL_law 144 = .ok (.ifCond .ge 7, 3) := by decide +kernel
theorem dL_law_147 : decode cL_law 147 = .ok (.iconst 1, 1) := by decide +kernel
theorem dL_law_148 : decode cL_law 148 = .ok (.goto 4, 3) := by decide +kernel
theorem dL_law_151 : decode cL_law 151 = .ok (.iconst 0, 1) := by decide +kernel
theorem dL_law_152 : decode cL_law 152 = .ok (.iadd, 1) := by decide +kernel
theorem dL_law_153 : decode cL_law 153 = .ok (.istore 9, 2) := by decide +kernel
theorem dL_law_155 : decode cL_law 155 = .ok (.iload 12, 2) := by decide +kernel
theorem dL_law_157 : decode cL_law 157 = .ok (.ifCond .lt 20, 3) := by decide +kernel
theorem dL_law_160 : decode cL_law 160 = .ok (.aload_n 1, 1) := by decide +kernel
theorem dL_law_161 : decode cL_law 161 = .ok (.iload 11, 2) := by decide +kernel
theorem dL_law_163 : decode cL_law 163 = .ok (.iconst 0, 1) := by decide +kernel
theorem dL_law_164 : decode cL_law 164 = .ok (.invokevirtual 106, 3) := by decide +kernel
theorem dL_law_167 : decode cL_law 167 = .ok (.iload 12, 2) := by decide +kernel
theorem dL_law_169 : decode cL_law 169 = .ok (.ishr, 1) := by decide +kernel
theorem dL_law_170 : decode cL_law 170 = .ok (.iconst 1, 1) := by decide +kernel
theorem dL_law_171 : decode cL_law 171 = .ok (.iand, 1) := by decide +kernel
theorem dL_law_172 : decode cL_law 172 = .ok (.ifCond .ne 5, 3) := by decide +kernel
theorem dL_law_175 : decode cL_law 175 = .ok (.iconst 0, 1) := by decide +kernel
theorem dL_law_176 : decode cL_law 176 = .ok (.ireturn, 1) := by decide +kernel
theorem dL_law_177 : decode cL_law 177 = .ok (.iinc 11 1, 3) := by decide +kernel
theorem dL_law_180 : decode cL_law 180 = .ok (.goto (-56), 3) := by decide +kernel
theorem dL_law_183 : decode cL_law 183 = .ok (.iinc 10 1, 3) := by decide +kernel
theorem dL_law_186 : decode cL_law 186 = .ok (.goto (-72), 3) := by decide +kernel
theorem dL_law_189 : decode cL_law 189 = .ok (.iload 9, 2) := by decide +kernel
theorem dL_law_191 : decode cL_law 191 = .ok (.istore 10, 2) := by decide +kernel
theorem dL_law_193 : decode cL_law 193 = .ok (.iconst 0, 1) := by decide +kernel
theorem dL_law_194 : decode cL_law 194 = .ok (.istore 11, 2) := by decide +kernel
theorem dL_law_196 : decode cL_law 196 = .ok (.iload 11, 2) := by decide +kernel
theorem dL_law_198 : decode cL_law 198 = .ok (.iload 5, 2) := by decide +kernel
theorem dL_law_200 : decode cL_law 200 = .ok (.if_icmp .ge 42, 3) := by decide +kernel
theorem dL_law_203 : decode cL_law 203 = .ok (.aload_n 1, 1) := by decide +kernel
theorem dL_law_204 : decode cL_law 204 = .ok (.iload 11, 2) := by decide +kernel
theorem dL_law_206 : decode cL_law 206 = .ok (.invokevirtual 110, 3) := by decide +kernel
theorem dL_law_209 : decode cL_law 209 = .ok (.istore 12, 2) := by decide +kernel
theorem dL_law_211 : decode cL_law 211 = .ok (.iload 10, 2) := by decide +kernel
theorem dL_law_213 : decode cL_law 213 = .ok (.iload 12, 2) := by decide +kernel
theorem dL_law_215 : decode cL_law 215 = .ok (.iadd, 1) := by decide +kernel
theorem dL_law_216 : decode cL_law 216 = .ok (.istore 10, 2) := by decide +kernel
theorem dL_law_218 : decode cL_law 218 = .ok (.aload 4, 2) := by decide +kernel
theorem dL_law_220 : decode cL_law 220 = .ok (.iconst 4, 1) := by decide +kernel
theorem dL_law_221 : decode cL_law 221 = .ok (.iload 11, 2) := by decide +kernel
theorem dL_law_223 : decode cL_law 223 = .ok (.imul, 1) := by decide +kernel
theorem dL_law_224 : decode cL_law 224 = .ok (.iaload, 1) := by decide +kernel
theorem dL_law_225 : decode cL_law 225 = .ok (.iconst 2, 1) := by decide +kernel
theorem dL_law_226 : decode cL_law 226 = .ok (.if_icmp .ge 10, 3) := by decide +kernel
theorem dL_law_229 : decode cL_law 229 = .ok (.iload 12, 2) := by decide +kernel
theorem dL_law_231 : decode cL_law 231 = .ok (.ifCond .le 5, 3) := by decide +kernel
theorem dL_law_234 : decode cL_law 234 = .ok (.iconst 0, 1) := by decide +kernel
theorem dL_law_235 : decode cL_law 235 = .ok (.ireturn, 1) := by decide +kernel
theorem dL_law_236 : decode cL_law 236 = .ok (.iinc 11 1, 3) := by decide +kernel
theorem dL_law_239 : decode cL_law 239 = .ok (.goto (-43), 3) := by decide +kernel
theorem dL_law_242 : decode cL_law 242 = .ok (.iload 10, 2) := by decide +kernel
theorem dL_law_244 : decode cL_law 244 = .ok (.iload 8, 2) := by decide +kernel
theorem dL_law_246 : decode cL_law 246 = .ok (.if_icmp .eq 5, 3) := by decide +kernel
theorem dL_law_249 : decode cL_law 249 = .ok (.iconst 0, 1) := by decide +kernel
theorem dL_law_250 : decode cL_law 250 = .ok (.ireturn, 1) := by decide +kernel
theorem dL_law_251 : decode cL_law 251 = .ok (.iconst 0, 1) := by decide +kernel
theorem dL_law_252 : decode cL_law 252 = .ok (.istore 11, 2) := by decide +kernel
theorem dL_law_254 : decode cL_law 254 = .ok (.iconst 0, 1) := by decide +kernel
theorem dL_law_255 : decode cL_law 255 = .ok (.istore 12, 2) := by decide +kernel
theorem dL_law_257 : decode cL_law 257 = .ok (.iload 12, 2) := by decide +kernel
theorem dL_law_259 : decode cL_law 259 = .ok (.iload_n 2, 1) := by decide +kernel
theorem dL_law_260 : decode cL_law 260 = .ok (.if_icmp .ge 20, 3) := by decide +kernel
theorem dL_law_263 : decode cL_law 263 = .ok (.iload 11, 2) := by decide +kernel
theorem dL_law_265 : decode cL_law 265 = .ok (.aload_n 1, 1) := by decide +kernel
theorem dL_law_266 : decode cL_law 266 = .ok (.iload 12, 2) := by decide +kernel
theorem dL_law_268 : decode cL_law 268 = .ok (.invokevirtual 113, 3) := by decide +kernel
theorem dL_law_271 : decode cL_law 271 = .ok (.iadd, 1) := by decide +kernel
theorem dL_law_272 : decode cL_law 272 = .ok (.istore 11, 2) := by decide +kernel
theorem dL_law_274 : decode cL_law 274 = .ok (.iinc 12 1, 3) := by decide +kernel
theorem dL_law_277 : decode cL_law 277 = .ok (.goto (-20), 3) := by decide +kernel
theorem dL_law_280 : decode cL_law 280 = .ok (.iload 11, 2) := by decide +kernel
theorem dL_law_282 : decode cL_law 282 = .ok (.iload 9, 2) := by decide +kernel
theorem dL_law_284 : decode cL_law 284 = .ok (.iadd, 1) := by decide +kernel
theorem dL_law_285 : decode cL_law 285 = .ok (.iconst 2, 1) := by decide +kernel
theorem dL_law_286 : decode cL_law 286 = .ok (.iload 7, 2) := by decide +kernel
theorem dL_law_288 : decode cL_law 288 = .ok (.imul, 1) := by decide +kernel
theorem dL_law_289 : decode cL_law 289 = .ok (.if_icmp .eq 5, 3) := by decide +kernel
theorem dL_law_292 : decode cL_law 292 = .ok (.iconst 0, 1) := by decide +kernel
theorem dL_law_293 : decode cL_law 293 = .ok (.ireturn, 1) := by decide +kernel
theorem dL_law_294 : decode cL_law 294 = .ok (.aload_n 1, 1) := by decide +kernel
theorem dL_law_295 : decode cL_law 295 = .ok (.invokevirtual 116, 3) := by decide +kernel
theorem dL_law_298 : decode cL_law 298 = .ok (.lstore 12, 2) := by decide +kernel
theorem dL_law_300 : decode cL_law 300 = .ok (.iload 7, 2) := by decide +kernel
theorem dL_law_302 : decode cL_law 302 = .ok (.iconst 1, 1) := by decide +kernel
theorem dL_law_303 : decode cL_law 303 = .ok (.if_icmp .le 59, 3) := by decide +kernel
theorem dL_law_306 : decode cL_law 306 = .ok (.aload_n 0, 1) := by decide +kernel
theorem dL_law_307 : decode cL_law 307 = .ok (.bipush 10, 2) := by decide +kernel
theorem dL_law_309 : decode cL_law 309 = .ok (.invokestatic 38, 3) := by decide +kernel
theorem dL_law_312 : decode cL_law 312 = .ok (.iload 6, 2) := by decide +kernel
theorem dL_law_314 : decode cL_law 314 = .ok (.ishr, 1) := by decide +kernel
theorem dL_law_315 : decode cL_law 315 = .ok (.iload 7, 2) := by decide +kernel
theorem dL_law_317 : decode cL_law 317 = .ok (.iconst 1, 1) := by decide +kernel
theorem dL_law_318 : decode cL_law 318 = .ok (.isub, 1) := by decide +kernel
theorem dL_law_319 : decode cL_law 319 = .ok (.invokestatic 42, 3) := by decide +kernel
theorem dL_law_322 : decode cL_law 322 = .ok (.istore 14, 2) := by decide +kernel
theorem dL_law_324 : decode cL_law 324 = .ok (.aload_n 1, 1) := by decide +kernel
theorem dL_law_325 : decode cL_law 325 = .ok (.iload 14, 2) := by decide +kernel
theorem dL_law_327 : decode cL_law 327 = .ok (.iload 7, 2) := by decide +kernel
theorem dL_law_329 : decode cL_law 329 = .ok (.iconst 1, 1) := by decide +kernel
theorem dL_law_330 : decode cL_law 330 = .ok (.isub, 1) := by decide +kernel
theorem dL_law_331 : decode cL_law 331 = .ok (.invokevirtual 120, 3) := by decide +kernel
theorem dL_law_334 : decode cL_law 334 = .ok (.pop, 1) := by decide +kernel
theorem dL_law_335 : decode cL_law 335 = .ok (.aload_n 1, 1) := by decide +kernel
theorem dL_law_336 : decode cL_law 336 = .ok (.iload 7, 2) := by decide +kernel
theorem dL_law_338 : decode cL_law 338 = .ok (.iconst 1, 1) := by decide +kernel
theorem dL_law_339 : decode cL_law 339 = .ok (.isub, 1) := by decide +kernel
theorem dL_law_340 : decode cL_law 340 = .ok (.iload 14, 2) := by decide +kernel
theorem dL_law_342 : decode cL_law 342 = .ok (.invokevirtual 120, 3) := by decide +kernel
theorem dL_law_345 : decode cL_law 345 = .ok (.iload 8, 2) := by decide +kernel
theorem dL_law_347 : decode cL_law 347 = .ok (.if_icmp .ne 13, 3) := by decide +kernel
theorem dL_law_350 : decode cL_law 350 = .ok (.aload_n 1, 1) := by decide +kernel
theorem dL_law_351 : decode cL_law 351 = .ok (.invokevirtual 116, 3) := by decide +kernel
theorem dL_law_354 : decode cL_law 354 = .ok (.lload 12, 2) := by decide +kernel
theorem dL_law_356 : decode cL_law 356 = .ok (.lcmp, 1) := by decide +kernel
theorem dL_law_357 : decode cL_law 357 = .ok (.ifCond .eq 5, 3) := by decide +kernel
theorem dL_law_360 : decode cL_law 360 = .ok (.iconst 0, 1) := by decide +kernel
theorem dL_law_361 : decode cL_law 361 = .ok (.ireturn, 1) := by decide +kernel
theorem dL_law_362 : decode cL_law 362 = .ok (.iconst 0, 1) := by decide +kernel
theorem dL_law_363 : decode cL_law 363 = .ok (.istore 14, 2) := by decide +kernel
theorem dL_law_365 : decode cL_law 365 = .ok (.iload 14, 2) := by decide +kernel
theorem dL_law_367 : decode cL_law 367 = .ok (.iconst 3, 1) := by decide +kernel
theorem dL_law_368 : decode cL_law 368 = .ok (.if_icmp .ge 37, 3) := by decide +kernel
theorem dL_law_371 : decode cL_law 371 = .ok (.aload_n 1, 1) := by decide +kernel
theorem dL_law_372 : decode cL_law 372 = .ok (.invokevirtual 123, 3) := by decide +kernel
theorem dL_law_375 : decode cL_law 375 = .ok (.istore 15, 2) := by decide +kernel
theorem dL_law_377 : decode cL_law 377 = .ok (.iload 15, 2) := by decide +kernel
theorem dL_law_379 : decode cL_law 379 = .ok (.iload 8, 2) := by decide +kernel
theorem dL_law_381 : decode cL_law 381 = .ok (.if_icmp .gt 12, 3) := by decide +kernel
theorem dL_law_384 : decode cL_law 384 = .ok (.iload 15, 2) := by decide +kernel
theorem dL_law_386 : decode cL_law 386 = .ok (.aload_n 1, 1) := by decide +kernel
theorem dL_law_387 : decode cL_law 387 = .ok (.invokevirtual 100, 3) := by decide +kernel
theorem dL_law_390 : decode cL_law 390 = .ok (.if_icmp .eq 5, 3) := by decide +kernel
theorem dL_law_393 : decode cL_law 393 = .ok (.iconst 0, 1) := by decide +kernel
theorem dL_law_394 : decode cL_law 394 = .ok (.ireturn, 1) := by decide +kernel
theorem dL_law_395 : decode cL_law 395 = .ok (.iload 15, 2) := by decide +kernel
theorem dL_law_397 : decode cL_law 397 = .ok (.istore 8, 2) := by decide +kernel
theorem dL_law_399 : decode cL_law 399 = .ok (.iinc 14 1, 3) := by decide +kernel
theorem dL_law_402 : decode cL_law 402 = .ok (.goto (-37), 3) := by decide +kernel
theorem dL_law_405 : decode cL_law 405 = .ok (.aload_n 1, 1) := by decide +kernel
theorem dL_law_406 : decode cL_law 406 = .ok (.invokevirtual 126, 3) := by decide +kernel
theorem dL_law_409 : decode cL_law 409 = .ok (.ifCond .ne 11, 3) := by decide +kernel
theorem dL_law_412 : decode cL_law 412 = .ok (.aload_n 1, 1) := by decide +kernel
theorem dL_law_413 : decode cL_law 413 = .ok (.invokevirtual 129, 3) := by decide +kernel
theorem dL_law_416 : decode cL_law 416 = .ok (.iconst (-1), 1) := by decide +kernel
theorem dL_law_417 : decode cL_law 417 = .ok (.if_icmp .eq 5, 3) := by decide +kernel
theorem dL_law_420 : decode cL_law 420 = .ok (.iconst 0, 1) := by decide +kernel
theorem dL_law_421 : decode cL_law 421 = .ok (.ireturn, 1) := by decide +kernel
theorem dL_law_422 : decode cL_law 422 = .ok (.iinc 6 1, 3) := by decide +kernel
theorem dL_law_425 : decode cL_law 425 = .ok (.goto (-373), 3) := by decide +kernel
theorem dL_law_428 : decode cL_law 428 = .ok (.iconst 1, 1) := by decide +kernel
theorem dL_law_429 : decode cL_law 429 = .ok (.ireturn, 1) := by decide +kernel
