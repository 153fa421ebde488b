theorem dX11_init_0 : decode cX11_init 0 = .ok (.aload_n 0, 1) := by decide +kernel
theorem dX11_init_1 : decode cX11_init 1 = .ok (.invokespecial 1, 3) := by decide +kernel
theorem dX11_init_4 : decode cX11_init 4 = .ok (.aload_n 0, 1) := by decide +kernel
theorem dX11_init_5 : decode cX11_init 5 = .ok (.sipush 1500, 3) := by decide +kernel
theorem dX11_init_8 : decode cX11_init 8 = .ok (.newarray .int, 2) := by decide +kernel
theorem dX11_init_10 : decode cX11_init 10 = .ok (.putfield 9, 3) := by decide +kernel
theorem dX11_init_13 : decode cX11_init 13 = .ok (.aload_n 0, 1) := by decide +kernel
theorem dX11_init_14 : decode cX11_init 14 = .ok (.iconst (-1), 1) := by decide +kernel
theorem dX11_init_15 : decode cX11_init 15 = .ok (.putfield 13, 3) := by decide +kernel
theorem dX11_init_18 : decode cX11_init 18 = .ok (.aload_n 0, 1) := by decide +kernel
theorem dX11_init_19 : decode cX11_init 19 = .ok (.sipush 1501, 3) := by decide +kernel
theorem dX11_init_22 : decode cX11_init 22 = .ok (.newarray .int, 2) := by decide +kernel
theorem dX11_init_24 : decode cX11_init 24 = .ok (.putfield 17, 3) := by decide +kernel
theorem dX11_init_27 : decode cX11_init 27 = .ok (.aload_n 0, 1) := by decide +kernel
theorem dX11_init_28 : decode cX11_init 28 = .ok (.sipush 1501, 3) := by decide +kernel
theorem dX11_init_31 : decode cX11_init 31 = .ok (.newarray .int, 2) := by decide +kernel
theorem dX11_init_33 : decode cX11_init 33 = .ok (.putfield 20, 3) := by decide +kernel
theorem dX11_init_36 : decode cX11_init 36 = .ok (.aload_n 0, 1) := by decide +kernel
theorem dX11_init_37 : decode cX11_init 37 = .ok (.sipush 1501, 3) := by decide +kernel
theorem dX11_init_40 : decode cX11_init 40 = .ok (.newarray .int, 2) := by decide +kernel
theorem dX11_init_42 : decode cX11_init 42 = .ok (.putfield 23, 3) := by decide +kernel
theorem dX11_init_45 : decode cX11_init 45 = .ok (.aload_n 0, 1) := by decide +kernel
theorem dX11_init_46 : decode cX11_init 46 = .ok (.bipush 16, 2) := by decide +kernel
theorem dX11_init_48 : decode cX11_init 48 = .ok (.newarray .long, 2) := by decide +kernel
theorem dX11_init_50 : decode cX11_init 50 = .ok (.putfield 26, 3) := by decide +kernel
theorem dX11_init_53 : decode cX11_init 53 = .ok (.aload_n 0, 1) := by decide +kernel
theorem dX11_init_54 : decode cX11_init 54 = .ok (.bipush 16, 2) := by decide +kernel
theorem dX11_init_56 : decode cX11_init 56 = .ok (.newarray .int, 2) := by decide +kernel
theorem dX11_init_58 : decode cX11_init 58 = .ok (.putfield 30, 3) := by decide +kernel
theorem dX11_init_61 : decode cX11_init 61 = .ok (.aload_n 0, 1) := by decide +kernel
theorem dX11_init_62 : decode cX11_init 62 = .ok (.bipush 16, 2) := by decide +kernel
theorem dX11_init_64 : decode cX11_init 64 = .ok (.newarray .int, 2) := by decide +kernel
theorem dX11_init_66 : decode cX11_init 66 = .ok (.putfield 33, 3) := by decide +kernel
theorem dX11_init_69 : decode cX11_init 69 = .ok (.aload_n 0, 1) := by decide +kernel
theorem dX11_init_70 : decode cX11_init 70 = .ok (.bipush 16, 2) := by decide +kernel
theorem dX11_init_72 : decode cX11_init 72 = .ok (.newarray .int, 2) := by decide +kernel
theorem dX11_init_74 : decode cX11_init 74 = .ok (.putfield 36, 3) := by decide +kernel
theorem dX11_init_77 : decode cX11_init 77 = .ok (.aload_n 0, 1) := by decide +kernel
theorem dX11_init_78 : decode cX11_init 78 = .ok (.bipush 16, 2) := by decide +kernel
theorem dX11_init_80 : decode cX11_init 80 = .ok (.newarray .long, 2) := by decide +kernel
theorem dX11_init_82 : decode cX11_init 82 = .ok (.putfield 39, 3) := by decide +kernel
theorem dX11_init_85 : decode cX11_init 85 = .ok (.aload_n 0, 1) := by decide +kernel
theorem dX11_init_86 : decode cX11_init 86 = .ok (.bipush 16, 2) := by decide +kernel
theorem dX11_init_88 : decode cX11_init 88 = .ok (.newarray .int, 2) := by decide +kernel
theorem dX11_init_90 : decode cX11_init 90 = .ok (.putfield 42, 3) := by decide +kernel
theorem dX11_init_93 : decode cX11_init 93 = .ok (.aload_n 0, 1) := by decide +kernel
theorem dX11_init_94 : decode cX11_init 94 = .ok (.bipush 16, 2) := by decide +kernel
theorem dX11_init_96 : decode cX11_init 96 = .ok (.newarray .long, 2) := by decide +kernel
theorem dX11_init_98 : decode cX11_init 98 = .ok (.putfield 45, 3) := by decide +kernel
theorem dX11_init_101 : decode cX11_init 101 = .ok (.aload_n 0, 1) := by decide +kernel
theorem dX11_init_102 : decode cX11_init 102 = .ok (.bipush 16, 2) := by decide +kernel
theorem dX11_init_104 : decode cX11_init 104 = .ok (.newarray .long, 2) := by decide +kernel
theorem dX11_init_106 : decode cX11_init 106 = .ok (.putfield 48, 3) := by decide +kernel
theorem dX11_init_109 : decode cX11_init 109 = .ok (.aload_n 0, 1) := by decide +kernel
theorem dX11_init_110 : decode cX11_init 110 = .ok (.bipush 16, 2) := by decide +kernel
theorem dX11_init_112 : decode cX11_init 112 = .ok (.newarray .int, 2) := by decide +kernel
theorem dX11_init_114 : decode cX11_init 114 = .ok (.putfield 51, 3) := by decide +kernel
theorem dX11_init_117 : decode cX11_init 117 = .ok (.aload_n 0, 1) := by decide +kernel
theorem dX11_init_118 : decode cX11_init 118 = .ok (.bipush 16, 2) := by decide +kernel
theorem dX11_init_120 : decode cX11_init 120 = .ok (.newarray .int, 2) := by decide +kernel
theorem dX11_init_122 : decode cX11_init 122 = .ok (.putfield 54, 3) := by decide +kernel
theorem dX11_init_125 : decode cX11_init 125 = .ok (.aload_n 0, 1) := by decide +kernel
theorem dX11_init_126 : decode cX11_init 126 = .ok (.sipush 256, 3) := by decide +kernel
theorem dX11_init_129 : decode cX11_init 129 = .ok (.newarray .long, 2) := by decide +kernel
theorem dX11_init_131 : decode cX11_init 131 = .ok (.putfield 57, 3) := by decide +kernel
theorem dX11_init_134 : decode cX11_init 134 = .ok (.aload_n 0, 1) := by decide +kernel
theorem dX11_init_135 : decode cX11_init 135 = .ok (.iconst 4, 1) := by decide +kernel
theorem dX11_init_136 : decode cX11_init 136 = .ok (.newarray .long, 2) := by decide +kernel
theorem dX11_init_138 : decode cX11_init 138 = .ok (.putfield 60, 3) := by decide +kernel
theorem dX11_init_141 : decode cX11_init 141 = .ok (.aload_n 0, 1) := by decide +kernel
theorem dX11_init_142 : decode cX11_init 142 = .ok (.bipush 8, 2) := by decide +kernel
theorem dX11_init_144 : decode cX11_init 144 = .ok (.newarray .int, 2) := by decide +kernel
theorem dX11_init_146 : decode cX11_init 146 = .ok (.putfield 63, 3) := by decide +kernel
theorem dX11_init_149 : decode cX11_init 149 = .ok (.aload_n 0, 1) := by decide +kernel
theorem dX11_init_150 : decode cX11_init 150 = .ok (.bipush 8, 2) := by decide +kernel
theorem dX11_init_152 : decode cX11_init 152 = .ok (.newarray .int, 2) := by decide +kernel
theorem dX11_init_154 : decode cX11_init 154 = .ok (.putfield 66, 3) := by decide +kernel
theorem dX11_init_157 : decode cX11_init 157 = .ok (.aload_n 0, 1) := by decide +kernel
theorem dX11_init_158 : decode cX11_init 158 = .ok (.bipush 8, 2) := by decide +kernel
theorem dX11_init_160 : decode cX11_init 160 = .ok (.newarray .int, 2) := by decide +kernel
theorem dX11_init_162 : decode cX11_init 162 = .ok (.putfield 69, 3) := by decide +kernel
theorem dX11_init_165 : decode cX11_init 165 = .ok (.aload_n 0, 1) := by decide +kernel
theorem dX11_init_166 : decode cX11_init 166 = .ok (.bipush 8, 2) := by decide +kernel
theorem dX11_init_168 : decode cX11_init 168 = .ok (.newarray .int, 2) := by decide +kernel
theorem dX11_init_170 : decode cX11_init 170 = .ok (.putfield 72, 3) := by decide +kernel
theorem dX11_init_173 : decode cX11_init 173 = .ok (.aload_n 0, 1) := by decide +kernel
theorem dX11_init_174 : decode cX11_init 174 = .ok (.bipush 8, 2) := by decide +kernel
theorem dX11_init_176 : decode cX11_init 176 = .ok (.newarray .int, 2) := by decide +kernel
theorem dX11_init_178 : decode cX11_init 178 = .ok (.putfield 75, 3) := by decide +kernel
theorem dX11_init_181 : decode cX11_init 181 = .ok (.aload_n 0, 1) := by decide +kernel
theorem dX11_init_182 : decode cX11_init 182 = .ok (.bipush 8, 2) := by decide +kernel
theorem dX11_init_184 : decode cX11_init 184 = .ok (.newarray .int, 2) := by decide +kernel
theorem dX11_init_186 : decode cX11_init 186 = .ok (.putfield 78, 3) := by decide +kernel
theorem dX11_init_189 : decode cX11_init 189 = .ok (.aload_n 0, 1) := by decide +kernel
theorem dX11_init_190 : decode cX11_init 190 = .ok (.bipush 8, 2) := by decide +kernel
theorem dX11_init_192 : decode cX11_init 192 = .ok (.newarray .int, 2) := by decide +kernel
theorem dX11_init_194 : decode cX11_init 194 = .ok (.putfield 81, 3) := by decide +kernel
theorem dX11_init_197 : decode cX11_init 197 = .ok (.aload_n 0, 1) := by decide +kernel
theorem dX11_init_198 : decode cX11_init 198 = .ok (.bipush 8, 2) := by decide +kernel
theorem dX11_init_200 : decode cX11_init 200 = .ok (.newarray .int, 2) := by decide +kernel
theorem dX11_init_202 : decode cX11_init 202 = .ok (.putfield 84, 3) := by decide +kernel
theorem dX11_init_205 : decode cX11_init 205 = .ok (.aload_n 0, 1) := by decide +kernel
theorem dX11_init_206 : decode cX11_init 206 = .ok (.bipush 8, 2) := by decide +kernel
theorem dX11_init_208 : decode cX11_init 208 = .ok (.newarray .int, 2) := by decide +kernel
theorem dX11_init_210 : decode cX11_init 210 = .ok (.putfield 87, 3) := by decide +kernel
theorem dX11_init_213 : decode cX11_init 213 = .ok (.aload_n 0, 1) := by decide +kernel
theorem dX11_init_214 : decode cX11_init 214 = .ok (.bipush 16, 2) := by decide +kernel
theorem dX11_init_216 : decode cX11_init 216 = .ok (.newarray .long, 2) := by decide +kernel
theorem dX11_init_218 : decode cX11_init 218 = .ok (.putfield 90, 3) := by decide +kernel
theorem dX11_init_221 : decode cX11_init 221 = .ok (.aload_n 0, 1) := by decide +kernel
theorem dX11_init_222 : decode cX11_init 222 = .ok (.bipush 112, 2) := by decide +kernel
theorem dX11_init_224 : decode cX11_init 224 = .ok (.newarray .int, 2) := by decide +kernel
theorem dX11_init_226 : decode cX11_init 226 = .ok (.putfield 93, 3) := by decide +kernel
theorem dX11_init_229 : decode cX11_init 229 = .ok (.return_, 1) := by decide +kernel
theorem dX11_thrown_0 : decode cX11_thrown 0 = .ok (.aload_n 0, 1) := by decide +kernel
theorem dX11_thrown_1 : decode cX11_thrown 1 = .ok (.getfield 96, 3) := by decide +kernel
theorem dX11_thrown_4 : decode cX11_thrown 4 = .ok (.ireturn, 1) := by decide +kernel
theorem dX11_no_0 : decode cX11_no 0 = .ok (.aload_n 0, 1) := by decide +kernel
theorem dX11_no_1 : decode cX11_no 1 = .ok (.iload_n 1, 1) := by decide +kernel
theorem dX11_no_2 : decode cX11_no 2 = .ok (.putfield 96, 3) := by decide +kernel
theorem dX11_no_5 : decode cX11_no 5 = .ok (.iconst 0, 1) := by decide +kernel
theorem dX11_no_6 : decode cX11_no 6 = .ok (.ireturn, 1) := by decide +kernel
theorem dX11_isIn_0 : decode cX11_isIn 0 = .ok (.iload_n 0, 1) := by decide +kernel
theorem dX11_isIn_1 : decode cX11_isIn 1 = .ok (.iload_n 1, 1) := by decide +kernel
theorem dX11_isIn_2 : decode cX11_isIn 2 = .ok (.if_icmp .lt 12, 3) := by decide +kernel
theorem dX11_isIn_5 : decode cX11_isIn 5 = .ok (.iload_n 0, 1) := by decide +kernel
theorem dX11_isIn_6 : decode cX11_isIn 6 = .ok (.iload_n 2, 1) := by decide +kernel
theorem dX11_isIn_7 : decode cX11_isIn 7 = .ok (.if_icmp .gt 7, 3) := by decide +kernel
theorem dX11_isIn_10 : decode cX11_isIn 10 = .ok (.iconst 1, 1) := by decide +kernel
theorem dX11_isIn_11 : decode cX11_isIn 11 = .ok (.goto 4, 3) := by decide +kernel
theorem dX11_isIn_14 : decode cX11_isIn 14 = .ok (.iconst 0, 1) := by decide +kernel
theorem dX11_isIn_15 : decode cX11_isIn 15 = .ok (.ireturn, 1) := by decide +kernel
theorem dX11_feed_0 : decode cX11_feed 0 = .ok (.aload_n 0, 1) := by decide +kernel
theorem dX11_feed_1 : decode cX11_feed 1 = .ok (.iconst 0, 1) := by decide +kernel
theorem dX11_feed_2 : decode cX11_feed 2 = .ok (.putfield 96, 3) := by decide +kernel
theorem dX11_feed_5 : decode cX11_feed 5 = .ok (.aload_n 0, 1) := by decide +kernel
theorem dX11_feed_6 : decode cX11_feed 6 = .ok (.getfield 99, 3) := by decide +kernel
theorem dX11_feed_9 : decode cX11_feed 9 = .ok (.bipush 20, 2) := by decide +kernel
theorem dX11_feed_11 : decode cX11_feed 11 = .ok (.iadd, 1) := by decide +kernel
theorem dX11_feed_12 : decode cX11_feed 12 = .ok (.sipush 1500, 3) := by decide +kernel
theorem dX11_feed_15 : decode cX11_feed 15 = .ok (.if_icmp .le 9, 3) := by decide +kernel
theorem dX11_feed_18 : decode cX11_feed 18 = .ok (.aload_n 0, 1) := by decide +kernel
theorem dX11_feed_19 : decode cX11_feed 19 = .ok (.iconst 1, 1) := by decide +kernel
theorem dX11_feed_20 : decode cX11_feed 20 = .ok (.invokevirtual 102, 3) := by decide +kernel
theorem dX11_feed_23 : decode cX11_feed 23 = .ok (.ireturn, 1) := by decide +kernel
theorem dX11_feed_24 : decode cX11_feed 24 = .ok (.iconst 5, 1) := by decide +kernel
theorem dX11_feed_25 : decode cX11_feed 25 = .ok (.newarray .int, 2) := by decide +kernel
theorem dX11_feed_27 : decode cX11_feed 27 = .ok (.dup, 1) := by decide +kernel
theorem dX11_feed_28 : decode cX11_feed 28 = .ok (.iconst 0, 1) := by decide +kernel
theorem dX11_feed_29 : decode cX11_feed 29 = .ok (.iload_n 1, 1) := by decide +kernel
theorem dX11_feed_30 : decode cX11_feed 30 = .ok (.iastore, 1) := by decide +kernel
theorem dX11_feed_31 : decode cX11_feed 31 = .ok (.dup, 1) := by decide +kernel
theorem dX11_feed_32 : decode cX11_feed 32 = .ok (.iconst 1, 1) := by decide +kernel
theorem dX11_feed_33 : decode cX11_feed 33 = .ok (.iload_n 2, 1) := by decide +kernel
theorem dX11_feed_34 : decode cX11_feed 34 = .ok (.iastore, 1) := by decide +kernel
theorem dX11_feed_35 : decode cX11_feed 35 = .ok (.dup, 1) := by decide +kernel
theorem dX11_feed_36 : decode cX11_feed 36 = .ok (.iconst 2, 1) := by decide +kernel
theorem dX11_feed_37 : decode cX11_feed 37 = .ok (.iload_n 3, 1) := by decide +kernel
theorem dX11_feed_38 : decode cX11_feed 38 = .ok (.iastore, 1) := by decide +kernel
theorem dX11_feed_39 : decode cX11_feed 39 = .ok (.dup, 1) := by decide +kernel
theorem dX11_feed_40 : decode cX11_feed 40 = .ok (.iconst 3, 1) := by decide +kernel
theorem dX11_feed_41 : decode cX11_feed 41 = .ok (.iload 4, 2) := by decide +kernel
theorem dX11_feed_43 : decode cX11_feed 43 = .ok (.iastore, 1) := by decide +kernel
theorem dX11_feed_44 : decode cX11_feed 44 = .ok (.dup, 1) := by decide +kernel
theorem dX11_feed_45 : decode cX11_feed 45 = .ok (.iconst 4, 1) := by decide +kernel
theorem dX11_feed_46 : decode cX11_feed 46 = .ok (.iload 5, 2) := by decide +kernel
theorem dX11_feed_48 : decode cX11_feed 48 = .ok (.iastore, 1) := by decide +kernel
theorem dX11_feed_49 : decode cX11_feed 49 = .ok (.astore 6, 2) := by decide +kernel
theorem dX11_feed_51 : decode cX11_feed 51 = .ok (.aload 6, 2) := by decide +kernel
theorem dX11_feed_53 : decode cX11_feed 53 = .ok (.astore 7, 2) := by decide +kernel
theorem dX11_feed_55 : decode cX11_feed 55 = .ok (.aload 7, 2) := by decide +kernel
theorem dX11_feed_57 : decode cX11_feed 57 = .ok (.arraylength, 1) := by decide +kernel
theorem dX11_feed_58 : decode cX11_feed 58 = .ok (.istore 8, 2) := by decide +kernel
theorem dX11_feed_60 : decode cX11_feed 60 = .ok (.iconst 0, 1) := by decide +kernel
theorem dX11_feed_61 : decode cX11_feed 61 = .ok (.istore 9, 2) := by decide +kernel
theorem dX11_feed_63 : decode cX11_feed 63 = .ok (.iload 9, 2) := by decide +kernel
theorem dX11_feed_65 : decode cX11_feed 65 = .ok (.iload 8, 2) := by decide +kernel
theorem dX11_feed_67 : decode cX11_feed 67 = .ok (.if_icmp .ge 61, 3) := by decide +kernel
theorem dX11_feed_70 : decode cX11_feed 70 = .ok (.aload 7, 2) := by decide +kernel
theorem dX11_feed_72 : decode cX11_feed 72 = .ok (.iload 9, 2) := by decide +kernel
theorem dX11_feed_74 : decode cX11_feed 74 = .ok (.iaload, 1) := by decide +kernel
theorem dX11_feed_75 : decode cX11_feed 75 = .ok (.istore 10, 2) := by decide +kernel
theorem dX11_feed_77 : decode cX11_feed 77 = .ok (.iconst 3, 1) := by decide +kernel
theorem dX11_feed_78 : decode cX11_feed 78 = .ok (.istore 11, 2) := by decide +kernel
theorem dX11_feed_80 : decode cX11_feed 80 = .ok (.iload 11, 2) := by decide +kernel
theorem dX11_feed_82 : decode cX11_feed 82 = .ok (.ifCond .lt 40, 3) := by decide +kernel
theorem dX11_feed_85 : decode cX11_feed 85 = .ok (.aload_n 0, 1) := by decide +kernel
theorem dX11_feed_86 : decode cX11_feed 86 = .ok (.getfield 9, 3) := by decide +kernel
theorem dX11_feed_89 : decode cX11_feed 89 = .ok (.aload_n 0, 1) := by decide +kernel
theorem dX11_feed_90 : decode cX11_feed 90 = .ok (.getfield 99, 3) := by decide +kernel
theorem dX11_feed_93 : decode cX11_feed 93 = .ok (.iload 10, 2) := by decide +kernel
theorem dX11_feed_95 : decode cX11_feed 95 = .ok (.bipush 8, 2) := by decide +kernel
theorem dX11_feed_97 : decode cX11_feed 97 = .ok (.iload 11, 2) := by decide +kernel
theorem dX11_feed_99 : decode cX11_feed 99 = .ok (.imul, 1) := by decide +kernel
theorem dX11_feed_100 : decode cX11_feed 100 = .ok (.ishr, 1) := by decide +kernel
theorem dX11_feed_101 : decode cX11_feed 101 = .ok (.sipush 255, 3) := by decide +kernel
theorem dX11_feed_104 : decode cX11_feed 104 = .ok (.iand, 1) := by decide +kernel
theorem dX11_feed_105 : decode cX11_feed 105 = .ok (.iastore, 1) := by decide +kernel
theorem dX11_feed_106 : decode cX11_feed 106 = .ok (.aload_n 0, 1) := by decide +kernel
theorem dX11_feed_107 : decode cX11_feed 107 = .ok (.dup, 1) := by decide +kernel
theorem dX11_feed_108 : decode cX11_feed 108 = .ok (.getfield 99, 3) := by decide +kernel
theorem dX11_feed_111 : decode cX11_feed 111 = .ok (.iconst 1, 1) := by decide +kernel
theorem dX11_feed_112 : decode cX11_feed 112 = .ok (.iadd, 1) := by decide +kernel
theorem dX11_feed_113 : decode cX11_feed 113 = .ok (.putfield 99, 3) := by decide +kernel
theorem dX11_feed_116 : decode cX11_feed 116 = .ok (.iinc 11 (-1), 3) := by decide +kernel
theorem dX11_feed_119 : decode cX11_feed 119 = .ok (.goto (-39), 3) := by decide +kernel
theorem dX11_feed_122 : decode cX11_feed 122 = .ok (.iinc 9 1, 3) := by decide +kernel
theorem dX11_feed_125 : decode cX11_feed 125 = .ok (.goto (-62), 3) := by decide +kernel
theorem dX11_feed_128 : decode cX11_feed 128 = .ok (.aload_n 0, 1) := by decide +kernel
theorem dX11_feed_129 : decode cX11_feed 129 = .ok (.getfield 99, 3) := by decide +kernel
theorem dX11_feed_132 : decode cX11_feed 132 = .ok (.ireturn, 1) := by decide +kernel
theorem dX11_trim_0 : decode cX11_trim 0 = .ok (.aload_n 0, 1) := by decide +kernel
theorem dX11_trim_1 : decode cX11_trim 1 = .ok (.iconst 0, 1) := by decide +kernel
theorem dX11_trim_2 : decode cX11_trim 2 = .ok (.putfield 96, 3) := by decide +kernel
theorem dX11_trim_5 : decode cX11_trim 5 = .ok (.iload_n 1, 1) := by decide +kernel
theorem dX11_trim_6 : decode cX11_trim 6 = .ok (.iconst 0, 1) := by decide +kernel
theorem dX11_trim_7 : decode cX11_trim 7 = .ok (.aload_n 0, 1) := by decide +kernel
theorem dX11_trim_8 : decode cX11_trim 8 = .ok (.getfield 99, 3) := by decide +kernel
theorem dX11_trim_11 : decode cX11_trim 11 = .ok (.invokestatic 106, 3) := by decide +kernel
theorem dX11_trim_14 : decode cX11_trim 14 = .ok (.ifCond .ne 9, 3) := by decide +kernel
theorem dX11_trim_17 : decode cX11_trim 17 = .ok (.aload_n 0, 1) := by decide +kernel
theorem dX11_trim_18 : decode cX11_trim 18 = .ok (.iconst 1, 1) := by decide +kernel
theorem dX11_trim_19 : decode cX11_trim 19 = .ok (.invokevirtual 102, 3) := by decide +kernel
theorem dX11_trim_22 : decode cX11_trim 22 = .ok (.ireturn, 1) := by decide +kernel
theorem dX11_trim_23 : decode cX11_trim 23 = .ok (.aload_n 0, 1) := by decide +kernel
theorem dX11_trim_24 : decode cX11_trim 24 = .ok (.iload_n 1, 1) := by decide +kernel
theorem dX11_trim_25 : decode cX11_trim 25 = .ok (.putfield 99, 3) := by decide +kernel
theorem dX11_trim_28 : decode cX11_trim 28 = .ok (.iload_n 1, 1) := by decide +kernel
theorem dX11_trim_29 : decode cX11_trim 29 = .ok (.ireturn, 1) := by decide +kernel
theorem dX11_byteAt_0 : decode cX11_byteAt 0 = .ok (.iload_n 1, 1) := by decide +kernel
theorem dX11_byteAt_1 : decode cX11_byteAt 1 = .ok (.aload_n 0, 1) := by decide +kernel
theorem dX11_byteAt_2 : decode cX11_byteAt 2 = .ok (.getfield 99, 3) := by decide +kernel
theorem dX11_byteAt_5 : decode cX11_byteAt 5 = .ok (.if_icmp .ge 12, 3) := by decide +kernel
theorem dX11_byteAt_8 : decode cX11_byteAt 8 = .ok (.aload_n 0, 1) := by decide +kernel
theorem dX11_byteAt_9 : decode cX11_byteAt 9 = .ok (.getfield 9, 3) := by decide +kernel
theorem dX11_byteAt_12 : decode cX11_byteAt 12 = .ok (.iload_n 1, 1) := by decide +kernel
theorem dX11_byteAt_13 : decode cX11_byteAt 13 = .ok (.iaload, 1) := by decide +kernel
theorem dX11_byteAt_14 : decode cX11_byteAt 14 = .ok (.goto 4, 3) := by decide +kernel
theorem dX11_byteAt_17 : decode cX11_byteAt 17 = .ok (.iconst (-1), 1) := by decide +kernel
theorem dX11_byteAt_18 : decode cX11_byteAt 18 = .ok (.ireturn, 1) := by decide +kernel
theorem dX11_isLetter_0 : decode cX11_isLetter 0 = .ok (.iload_n 0, 1) := by decide +kernel
theorem dX11_isLetter_1 : decode cX11_isLetter 1 = .ok (.bipush 97, 2) := by decide +kernel
theorem dX11_isLetter_3 : decode cX11_isLetter 3 = .ok (.bipush 122, 2) := by decide +kernel
theorem dX11_isLetter_5 : decode cX11_isLetter 5 = .ok (.invokestatic 106, 3) := by decide +kernel
theorem dX11_isLetter_8 : decode cX11_isLetter 8 = .ok (.ireturn, 1) := by decide +kernel
theorem dX11_isDigit_0 : decode cX11_isDigit 0 = .ok (.iload_n 0, 1) := by decide +kernel
theorem dX11_isDigit_1 : decode cX11_isDigit 1 = .ok (.bipush 48, 2) := by decide +kernel
theorem dX11_isDigit_3 : decode cX11_isDigit 3 = .ok (.bipush 57, 2) := by decide +kernel
theorem dX11_isDigit_5 : decode cX11_isDigit 5 = .ok (.invokestatic 106, 3) := by decide +kernel
theorem dX11_isDigit_8 : decode cX11_isDigit 8 = .ok (.ireturn, 1) := by decide +kernel
theorem dX11_isSymbol_0 : decode cX11_isSymbol 0 = .ok (.iload_n 0, 1) := by decide +kernel
theorem dX11_isSymbol_1 : decode cX11_isSymbol 1 = .ok (.bipush 59, 2) := by decide +kernel
theorem dX11_isSymbol_3 : decode cX11_isSymbol 3 = .ok (.if_icmp .eq 27, 3) := by decide +kernel
theorem dX11_isSymbol_6 : decode cX11_isSymbol 6 = .ok (.iload_n 0, 1) := by decide +kernel
theorem dX11_isSymbol_7 : decode cX11_isSymbol 7 = .ok (.bipush 58, 2) := by decide +kernel
theorem dX11_isSymbol_9 : decode cX11_isSymbol 9 = .ok (.if_icmp .eq 21, 3) := by decide +kernel
theorem dX11_isSymbol_12 : decode cX11_isSymbol 12 = .ok (.iload_n 0, 1) := by decide +kernel
theorem dX11_isSymbol_13 : decode cX11_isSymbol 13 = .ok (.bipush 44, 2) := by decide +kernel
theorem dX11_isSymbol_15 : decode cX11_isSymbol 15 = .ok (.if_icmp .eq 15, 3) := by decide +kernel
theorem dX11_isSymbol_18 : decode cX11_isSymbol 18 = .ok (.iload_n 0, 1) := by decide +kernel
theorem dX11_isSymbol_19 : decode cX11_isSymbol 19 = .ok (.bipush 40, 2) := by decide +kernel
theorem dX11_isSymbol_21 : decode cX11_isSymbol 21 = .ok (.if_icmp .eq 9, 3) := by decide +kernel
theorem dX11_isSymbol_24 : decode cX11_isSymbol 24 = .ok (.iload_n 0, 1) := by decide +kernel
theorem dX11_isSymbol_25 : decode cX11_isSymbol 25 = .ok (.bipush 41, 2) := by decide +kernel
theorem dX11_isSymbol_27 : decode cX11_isSymbol 27 = .ok (.if_icmp .ne 7, 3) := by decide +kernel
theorem dX11_isSymbol_30 : decode cX11_isSymbol 30 = .ok (.iconst 1, 1) := by decide +kernel
theorem dX11_isSymbol_31 : decode cX11_isSymbol 31 = .ok (.goto 4, 3) := by decide +kernel
theorem dX11_isSymbol_34 : decode cX11_isSymbol 34 = .ok (.iconst 0, 1) := by decide +kernel
theorem dX11_isSymbol_35 : decode cX11_isSymbol 35 = .ok (.ireturn, 1) := by decide +kernel
theorem dX11_scan_0 : decode cX11_scan 0 = .ok (.iconst 0, 1) := by decide +kernel
theorem dX11_scan_1 : decode cX11_scan 1 = .ok (.istore_n 1, 1) := by decide +kernel
theorem dX11_scan_2 : decode cX11_scan 2 = .ok (.iconst 0, 1) := by decide +kernel
theorem dX11_scan_3 : decode cX11_scan 3 = .ok (.istore_n 2, 1) := by decide +kernel
theorem dX11_scan_4 : decode cX11_scan 4 = .ok (.iconst 1, 1) := by decide +kernel
theorem dX11_scan_5 : decode cX11_scan 5 = .ok (.istore_n 3, 1) := by decide +kernel
theorem dX11_scan_6 : decode cX11_scan 6 = .ok (.iload_n 3, 1) := by decide +kernel
theorem dX11_scan_7 : decode cX11_scan 7 = .ok (.ifCond .eq 202, 3) := by decide +kernel
theorem dX11_scan_10 : decode cX11_scan 10 = .ok (.aload_n 0, 1) := by decide +kernel
theorem dX11_scan_11 : decode cX11_scan 11 = .ok (.iload_n 2, 1) := by decide +kernel
theorem dX11_scan_12 : decode cX11_scan 12 = .ok (.invokevirtual 110, 3) := by decide +kernel
theorem dX11_scan_15 : decode cX11_scan 15 = .ok (.bipush 32, 2) := by decide +kernel
theorem dX11_scan_17 : decode cX11_scan 17 = .ok (.if_icmp .eq 13, 3) := by decide +kernel
theorem dX11_scan_20 : decode cX11_scan 20 = .ok (.aload_n 0, 1) := by decide +kernel
theorem dX11_scan_21 : decode cX11_scan 21 = .ok (.iload_n 2, 1) := by decide +kernel
theorem dX11_scan_22 : decode cX11_scan 22 = .ok (.invokevirtual 110, 3) := by decide +kernel
theorem dX11_scan_25 : decode cX11_scan 25 = .ok (.bipush 10, 2) := by decide +kernel
theorem dX11_scan_27 : decode cX11_scan 27 = .ok (.if_icmp .ne 9, 3) := by decide +kernel
theorem dX11_scan_30 : decode cX11_scan 30 = .ok (.iinc 2 1, 3) := by decide +kernel
theorem dX11_scan_33 : decode cX11_scan 33 = .ok (.goto (-23), 3) := by decide +kernel
theorem dX11_scan_36 : decode cX11_scan 36 = .ok (.iload_n 2, 1) := by decide +kernel
theorem dX11_scan_37 : decode cX11_scan 37 = .ok (.istore 4, 2) := by decide +kernel
theorem dX11_scan_39 : decode cX11_scan 39 = .ok (.iconst 0, 1) := by decide +kernel
theorem dX11_scan_40 : decode cX11_scan 40 = .ok (.istore 5, 2) := by decide +kernel
theorem dX11_scan_42 : decode cX11_scan 42 = .ok (.aload_n 0, 1) := by decide +kernel
theorem dX11_scan_43 : decode cX11_scan 43 = .ok (.iload_n 2, 1) := by decide +kernel
theorem dX11_scan_44 : decode cX11_scan 44 = .ok (.invokevirtual 110, 3) := by decide +kernel
theorem dX11_scan_47 : decode cX11_scan 47 = .ok (.invokestatic 113, 3) := by decide +kernel
theorem dX11_scan_50 : decode cX11_scan 50 = .ok (.ifCond .eq 40, 3) := by decide +kernel
theorem dX11_scan_53 : decode cX11_scan 53 = .ok (.aload_n 0, 1) := by decide +kernel
theorem dX11_scan_54 : decode cX11_scan 54 = .ok (.iload 4, 2) := by decide +kernel
theorem dX11_scan_56 : decode cX11_scan 56 = .ok (.invokevirtual 110, 3) := by decide +kernel
theorem dX11_scan_59 : decode cX11_scan 59 = .ok (.invokestatic 113, 3) := by decide +kernel
theorem dX11_scan_62 : decode cX11_scan 62 = .ok (.ifCond .eq 9, 3) := by decide +kernel
theorem dX11_scan_65 : decode cX11_scan 65 = .ok (.iinc 4 1, 3) := by decide +kernel
theorem dX11_scan_68 : decode cX11_scan 68 = .ok (.goto (-15), 3) := by decide +kernel
theorem dX11_scan_71 : decode cX11_scan 71 = .ok (.iload 4, 2) := by decide +kernel
theorem dX11_scan_73 : decode cX11_scan 73 = .ok (.iload_n 2, 1) := by decide +kernel
theorem dX11_scan_74 : decode cX11_scan 74 = .ok (.isub, 1) := by decide +kernel
theorem dX11_scan_75 : decode cX11_scan 75 = .ok (.bipush 10, 2) := by decide +kernel
theorem dX11_scan_77 : decode cX11_scan 77 = .ok (.if_icmp .gt 7, 3) := by decide +kernel
theorem dX11_scan_80 : decode cX11_scan 80 = .ok (.iconst 1, 1) := by decide +kernel
theorem dX11_scan_81 : decode cX11_scan 81 = .ok (.goto 4, 3) := by decide +kernel
theorem dX11_scan_84 : decode cX11_scan 84 = .ok (.iconst 4, 1) := by decide +kernel
theorem dX11_scan_85 : decode cX11_scan 85 = .ok (.istore 5, 2) := by decide +kernel
theorem dX11_scan_87 : decode cX11_scan 87 = .ok (.goto 79, 3) := by decide +kernel
theorem dX11_scan_90 : decode cX11_scan 90 = .ok (.aload_n 0, 1) := by decide +kernel
theorem dX11_scan_91 : decode cX11_scan 91 = .ok (.iload_n 2, 1) := by decide +kernel
theorem dX11_scan_92 : decode cX11_scan 92 = .ok (.invokevirtual 110, 3) := by decide +kernel
theorem dX11_scan_95 : decode cX11_scan 95 = .ok (.invokestatic 117, 3) := by decide +kernel
theorem dX11_scan_98 : decode cX11_scan 98 = .ok (.ifCond .eq 39, 3) := by decide +kernel
theorem dX11_scan_101 : decode cX11_scan 101 = .ok (.aload_n 0, 1) := by decide +kernel
theorem dX11_scan_102 : decode cX11_scan 102 = .ok (.iload 4, 2) := by decide +kernel
theorem dX11_scan_104 : decode cX11_scan 104 = .ok (.invokevirtual 110, 3) := by decide +kernel
theorem dX11_scan_107 : decode cX11_scan 107 = .ok (.invokestatic 117, 3) := by decide +kernel
theorem dX11_scan_110 : decode cX11_scan 110 = .ok (.ifCond .eq 9, 3) := by decide +kernel
theorem dX11_scan_113 : decode cX11_scan 113 = .ok (.iinc 4 1, 3) := by decide +kernel
theorem dX11_scan_116 : decode cX11_scan 116 = .ok (.goto (-15), 3) := by decide +kernel
theorem dX11_scan_119 : decode cX11_scan 119 = .ok (.iload 4, 2) := by decide +kernel
theorem dX11_scan_121 : decode cX11_scan 121 = .ok (.iload_n 2, 1) := by decide +kernel
theorem dX11_scan_122 : decode cX11_scan 122 = .ok (.isub, 1) := by decide +kernel
theorem dX11_scan_123 : decode cX11_scan 123 = .ok (.iconst 4, 1) := by decide +kernel
theorem dX11_scan_124 : decode cX11_scan 124 = .ok (.if_icmp .gt 7, 3) := by decide +kernel
theorem dX11_scan_127 : decode cX11_scan 127 = .ok (.iconst 2, 1) := by decide +kernel
theorem dX11_scan_128 : decode cX11_scan 128 = .ok (.goto 4, 3) := by decide +kernel
theorem dX11_scan_131 : decode cX11_scan 131 = .ok (.iconst 4, 1) := by decide +kernel
theorem dX11_scan_132 : decode cX11_scan 132 = .ok (.istore 5, 2) := by decide +kernel
theorem dX11_scan_134 : decode cX11_scan 134 = .ok (.goto 32, 3) := by decide +kernel
theorem dX11_scan_137 : decode cX11_scan 137 = .ok (.iload_n 2, 1) := by decide +kernel
theorem dX11_scan_138 : decode cX11_scan 138 = .ok (.aload_n 0, 1) := by decide +kernel
theorem dX11_scan_139 : decode cX11_scan 139 = .ok (.getfield 99, 3) := by decide +kernel
theorem dX11_scan_142 : decode cX11_scan 142 = .ok (.if_icmp .ge 24, 3) := by decide +kernel
theorem dX11_scan_145 : decode cX11_scan 145 = .ok (.iinc 4 1, 3) := by decide +kernel
theorem dX11_scan_148 : decode cX11_scan 148 = .ok (.aload_n 0, 1) := by decide +kernel
theorem dX11_scan_149 : decode cX11_scan 149 = .ok (.iload_n 2, 1) := by decide +kernel
theorem dX11_scan_150 : decode cX11_scan 150 = .ok (.invokevirtual 110, 3) := by decide +kernel
theorem dX11_scan_153 : decode cX11_scan 153 = .ok (.invokestatic 120, 3) := by decide +kernel
theorem dX11_scan_156 : decode cX11_scan 156 = .ok (.ifCond .eq 7, 3) := by decide +kernel
theorem dX11_scan_159 : decode cX11_scan 159 = .ok (.iconst 3, 1) := by decide +kernel
theorem dX11_scan_160 : decode cX11_scan 160 = .ok (.goto 4, 3) := by decide +kernel
theorem dX11_scan_163 : decode cX11_scan 163 = .ok (.iconst 4, 1) := by decide +kernel
theorem dX11_scan_164 : decode cX11_scan 164 = .ok (.istore 5, 2) := by decide +kernel
theorem dX11_scan_166 : decode cX11_scan 166 = .ok (.aload_n 0, 1) := by decide +kernel
theorem dX11_scan_167 : decode cX11_scan 167 = .ok (.getfield 17, 3) := by decide +kernel
theorem dX11_scan_170 : decode cX11_scan 170 = .ok (.iload_n 1, 1) := by decide +kernel
theorem dX11_scan_171 : decode cX11_scan 171 = .ok (.iload 5, 2) := by decide +kernel
theorem dX11_scan_173 : decode cX11_scan 173 = .ok (.iastore, 1) := by decide +kernel
theorem dX11_scan_174 : decode cX11_scan 174 = .ok (.aload_n 0, 1) := by decide +kernel
theorem dX11_scan_175 : decode cX11_scan 175 = .ok (.getfield 20, 3) := by decide +kernel
theorem dX11_scan_178 : decode cX11_scan 178 = .ok (.iload_n 1, 1) := by decide +kernel
theorem dX11_scan_179 : decode cX11_scan 179 = .ok (.iload_n 2, 1) := by decide +kernel
theorem dX11_scan_180 : decode cX11_scan 180 = .ok (.iastore, 1) := by decide +kernel
theorem dX11_scan_181 : decode cX11_scan 181 = .ok (.aload_n 0, 1) := by decide +kernel
theorem dX11_scan_182 : decode cX11_scan 182 = .ok (.getfield 23, 3) := by decide +kernel
theorem dX11_scan_185 : decode cX11_scan 185 = .ok (.iload_n 1, 1) := by decide +kernel
theorem dX11_scan_186 : decode cX11_scan 186 = .ok (.iload 4, 2) := by decide +kernel
theorem dX11_scan_188 : decode cX11_scan 188 = .ok (.iastore, 1) := by decide +kernel
theorem dX11_scan_189 : decode cX11_scan 189 = .ok (.iinc 1 1, 3) := by decide +kernel
theorem dX11_scan_192 : decode cX11_scan 192 = .ok (.iload 4, 2) := by decide +kernel
theorem dX11_scan_194 : decode cX11_scan 194 = .ok (.istore_n 2, 1) := by decide +kernel
theorem dX11_scan_195 : decode cX11_scan 195 = .ok (.iload 5, 2) := by decide +kernel
theorem dX11_scan_197 : decode cX11_scan 197 = .ok (.ifCond .eq 7, 3) := by decide +kernel
theorem dX11_scan_200 : decode cX11_scan 200 = .ok (.iconst 1, 1) := by decide +kernel
theorem dX11_scan_201 : decode cX11_scan 201 = .ok (.goto 4, 3) := by decide +kernel
theorem dX11_scan_204 : decode cX11_scan 204 = .ok (.iconst 0, 1) := by decide +kernel
theorem dX11_scan_205 : decode cX11_scan 205 = .ok (.istore_n 3, 1) := by decide +kernel
theorem dX11_scan_206 : decode cX11_scan 206 = .ok (.goto (-200), 3) := by decide +kernel
theorem dX11_scan_209 : decode cX11_scan 209 = .ok (.return_, 1) := by decide +kernel
theorem dX11_is_0 : decode cX11_is 0 = .ok (.aload_n 0, 1) := by decide +kernel
theorem dX11_is_1 : decode cX11_is 1 = .ok (.getfield 17, 3) := by decide +kernel
theorem dX11_is_4 : decode cX11_is 4 = .ok (.iload_n 1, 1) := by decide +kernel
theorem dX11_is_5 : decode cX11_is 5 = .ok (.iaload, 1) := by decide +kernel
theorem dX11_is_6 : decode cX11_is 6 = .ok (.iconst 1, 1) := by decide +kernel
theorem dX11_is_7 : decode cX11_is 7 = .ok (.if_icmp .eq 13, 3) := by decide +kernel
theorem dX11_is_10 : decode cX11_is 10 = .ok (.aload_n 0, 1) := by decide +kernel
theorem dX11_is_11 : decode cX11_is 11 = .ok (.getfield 17, 3) := by decide +kernel
theorem dX11_is_14 : decode cX11_is 14 = .ok (.iload_n 1, 1) := by decide +kernel
theorem dX11_is_15 : decode cX11_is 15 = .ok (.iaload, 1) := by decide +kernel
theorem dX11_is_16 : decode cX11_is 16 = .ok (.iconst 3, 1) := by decide +kernel
theorem dX11_is_17 : decode cX11_is 17 = .ok (.if_icmp .ne 27, 3) := by decide +kernel
theorem dX11_is_20 : decode cX11_is 20 = .ok (.aload_n 0, 1) := by decide +kernel
theorem dX11_is_21 : decode cX11_is 21 = .ok (.getfield 23, 3) := by decide +kernel
theorem dX11_is_24 : decode cX11_is 24 = .ok (.iload_n 1, 1) := by decide +kernel
theorem dX11_is_25 : decode cX11_is 25 = .ok (.iaload, 1) := by decide +kernel
theorem dX11_is_26 : decode cX11_is 26 = .ok (.aload_n 0, 1) := by decide +kernel
theorem dX11_is_27 : decode cX11_is 27 = .ok (.getfield 20, 3) := by decide +kernel
theorem dX11_is_30 : decode cX11_is 30 = .ok (.iload_n 1, 1) := by decide +kernel
theorem dX11_is_31 : decode cX11_is 31 = .ok (.iaload, 1) := by decide +kernel
theorem dX11_is_32 : decode cX11_is 32 = .ok (.isub, 1) := by decide +kernel
theorem dX11_is_33 : decode cX11_is 33 = .ok (.aload_n 2, 1) := by decide +kernel
theorem dX11_is_34 : decode cX11_is 34 = .ok (.invokevirtual 123, 3) := by decide +kernel
theorem dX11_is_37 : decode cX11_is 37 = .ok (.if_icmp .ne 7, 3) := by decide +kernel
theorem dX11_is_40 : decode cX11_is 40 = .ok (.iconst 1, 1) := by decide +kernel
theorem dX11_is_41 : decode cX11_is 41 = .ok (.goto 4, 3) := by decide +kernel
theorem dX11_is_44 : decode cX11_is 44 = .ok (.iconst 0, 1) := by decide +kernel
theorem dX11_is_45 : decode cX11_is 45 = .ok (.istore_n 3, 1) := by decide +kernel
theorem dX11_is_46 : decode cX11_is 46 = .ok (.iconst 0, 1) := by decide +kernel
theorem dX11_is_47 : decode cX11_is 47 = .ok (.istore 4, 2) := by decide +kernel
theorem dX11_is_49 : decode cX11_is 49 = .ok (.iload 4, 2) := by decide +kernel
theorem dX11_is_51 : decode cX11_is 51 = .ok (.aload_n 2, 1) := by decide +kernel
theorem dX11_is_52 : decode cX11_is 52 = .ok (.invokevirtual 123, 3) := by decide +kernel
theorem dX11_is_55 : decode cX11_is 55 = .ok (.if_icmp .ge 42, 3) := by decide +kernel
theorem dX11_is_58 : decode cX11_is 58 = .ok (.iload_n 3, 1) := by decide +kernel
theorem dX11_is_59 : decode cX11_is 59 = .ok (.ifCond .eq 38, 3) := by decide +kernel
theorem dX11_is_62 : decode cX11_is 62 = .ok (.aload_n 0, 1) := by decide +kernel
theorem dX11_is_63 : decode cX11_is 63 = .ok (.getfield 9, 3) := by decide +kernel
theorem dX11_is_66 : decode cX11_is 66 = .ok (.aload_n 0, 1) := by decide +kernel
theorem dX11_is_67 : decode cX11_is 67 = .ok (.getfield 20, 3) := by decide +kernel
theorem dX11_is_70 : decode cX11_is 70 = .ok (.iload_n 1, 1) := by decide +kernel
theorem dX11_is_71 : decode cX11_is 71 = .ok (.iaload, 1) := by decide +kernel
theorem dX11_is_72 : decode cX11_is 72 = .ok (.iload 4, 2) := by decide +kernel
theorem dX11_is_74 : decode cX11_is 74 = .ok (.iadd, 1) := by decide +kernel
theorem dX11_is_75 : decode cX11_is 75 = .ok (.iaload, 1) := by decide +kernel
theorem dX11_is_76 : decode cX11_is 76 = .ok (.aload_n 2, 1) := by decide +kernel
theorem dX11_is_77 : decode cX11_is 77 = .ok (.iload 4, 2) := by decide +kernel
theorem dX11_is_79 : decode cX11_is 79 = .ok (.invokevirtual 128, 3) := by decide +kernel
theorem dX11_is_82 : decode cX11_is 82 = .ok (.if_icmp .ne 7, 3) := by decide +kernel
theorem dX11_is_85 : decode cX11_is 85 = .ok (.iconst 1, 1) := by decide +kernel
theorem dX11_is_86 : decode cX11_is 86 = .ok (.goto 4, 3) := by decide +kernel
theorem dX11_is_89 : decode cX11_is 89 = .ok (.iconst 0, 1) := by decide +kernel
theorem dX11_is_90 : decode cX11_is 90 = .ok (.istore_n 3, 1) := by decide +kernel
theorem dX11_is_91 : decode cX11_is 91 = .ok (.iinc 4 1, 3) := by decide +kernel
theorem dX11_is_94 : decode cX11_is 94 = .ok (.goto (-45), 3) := by decide +kernel
theorem dX11_is_97 : decode cX11_is 97 = .ok (.iload_n 3, 1) := by decide +kernel
theorem dX11_is_98 : decode cX11_is 98 = .ok (.ireturn, 1) := by decide +kernel
theorem dX11_isName_0 : decode cX11_isName 0 = .ok (.aload_n 0, 1) := by decide +kernel
theorem dX11_isName_1 : decode cX11_isName 1 = .ok (.getfield 17, 3) := by decide +kernel
theorem dX11_isName_4 : decode cX11_isName 4 = .ok (.iload_n 1, 1) := by decide +kernel
theorem dX11_isName_5 : decode cX11_isName 5 = .ok (.iaload, 1) := by decide +kernel
theorem dX11_isName_6 : decode cX11_isName 6 = .ok (.iconst 1, 1) := by decide +kernel
theorem dX11_isName_7 : decode cX11_isName 7 = .ok (.if_icmp .ne 7, 3) := by decide +kernel
theorem dX11_isName_10 : decode cX11_isName 10 = .ok (.iconst 1, 1) := by decide +kernel
theorem dX11_isName_11 : decode cX11_isName 11 = .ok (.goto 4, 3) := by decide +kernel
theorem dX11_isName_14 : decode cX11_isName 14 = .ok (.iconst 0, 1) := by decide +kernel
theorem dX11_isName_15 : decode cX11_isName 15 = .ok (.istore_n 2, 1) := by decide +kernel
theorem dX11_isName_16 : decode cX11_isName 16 = .ok (.getstatic 132, 3) := by decide +kernel
theorem dX11_isName_19 : decode cX11_isName 19 = .ok (.astore_n 3, 1) := by decide +kernel
theorem dX11_isName_20 : decode cX11_isName 20 = .ok (.aload_n 3, 1) := by decide +kernel
theorem dX11_isName_21 : decode cX11_isName 21 = .ok (.arraylength, 1) := by decide +kernel
theorem dX11_isName_22 : decode cX11_isName 22 = .ok (.istore 4, 2) := by decide +kernel
theorem dX11_isName_24 : decode cX11_isName 24 = .ok (.iconst 0, 1) := by decide +kernel
theorem dX11_isName_25 : decode cX11_isName 25 = .ok (.istore 5, 2) := by decide +kernel
theorem dX11_isName_27 : decode cX11_isName 27 = .ok (.iload 5, 2) := by decide +kernel
theorem dX11_isName_29 : decode cX11_isName 29 = .ok (.iload 4, 2) := by decide +kernel
theorem dX11_isName_31 : decode cX11_isName 31 = .ok (.if_icmp .ge 35, 3) := by decide +kernel
theorem dX11_isName_34 : decode cX11_isName 34 = .ok (.aload_n 3, 1) := by decide +kernel
theorem dX11_isName_35 : decode cX11_isName 35 = .ok (.iload 5, 2) := by decide +kernel
theorem dX11_isName_37 : decode cX11_isName 37 = .ok (.aaload, 1) := by decide +kernel
theorem dX11_isName_38 : decode cX11_isName 38 = .ok (.astore 6, 2) := by decide +kernel
theorem dX11_isName_40 : decode cX11_isName 40 = .ok (.iload_n 2, 1) := by decide +kernel
theorem dX11_isName_41 : decode cX11_isName 41 = .ok (.ifCond .eq 17, 3) := by decide +kernel
theorem dX11_isName_44 : decode cX11_isName 44 = .ok (.aload_n 0, 1) := by decide +kernel
theorem dX11_isName_45 : decode cX11_isName 45 = .ok (.iload_n 1, 1) := by decide +kernel
theorem dX11_isName_46 : decode cX11_isName 46 = .ok (.aload 6, 2) := by decide +kernel
theorem dX11_isName_48 : decode cX11_isName 48 = .ok (.invokevirtual 136, 3) := by decide +kernel
theorem dX11_isName_51 : decode cX11_isName 51 = .ok (.ifCond .ne 7, 3) := by decide +kernel
theorem dX11_isName_54 : decode cX11_isName 54 = .ok (.iconst 1, 1) := by decide +kernel
theorem dX11_isName_55 : decode cX11_isName 55 = .ok (.goto 4, 3) := by decide +kernel
theorem dX11_isName_58 : decode cX11_isName 58 = .ok (.iconst 0, 1) := by decide +kernel
theorem dX11_isName_59 : decode cX11_isName 59 = .ok (.istore_n 2, 1) := by decide +kernel
theorem dX11_isName_60 : decode cX11_isName 60 = .ok (.iinc 5 1, 3) := by decide +kernel
theorem dX11_isName_63 : decode cX11_isName 63 = .ok (.goto (-36), 3) := by decide +kernel
theorem dX11_isName_66 : decode cX11_isName 66 = .ok (.iload_n 2, 1) := by decide +kernel
theorem dX11_isName_67 : decode cX11_isName 67 = .ok (.ireturn, 1) := by decide +kernel
theorem dX11_nameOf_0 : decode cX11_nameOf 0 = .ok (.lconst 0, 1) := by decide +kernel
theorem dX11_nameOf_1 : decode cX11_nameOf 1 = .ok (.lstore_n 2, 1) := by decide +kernel
theorem dX11_nameOf_2 : decode cX11_nameOf 2 = .ok (.aload_n 0, 1) := by decide +kernel
theorem dX11_nameOf_3 : decode cX11_nameOf 3 = .ok (.getfield 20, 3) := by decide +kernel
theorem dX11_nameOf_6 : decode cX11_nameOf 6 = .ok (.iload_n 1, 1) := by decide +kernel
theorem dX11_nameOf_7 : decode cX11_nameOf 7 = .ok (.iaload, 1) := by decide +kernel
theorem dX11_nameOf_8 : decode cX11_nameOf 8 = .ok (.istore 4, 2) := by decide +kernel
theorem dX11_nameOf_10 : decode cX11_nameOf 10 = .ok (.iload 4, 2) := by decide +kernel
theorem dX11_nameOf_12 : decode cX11_nameOf 12 = .ok (.aload_n 0, 1) := by decide +kernel
theorem dX11_nameOf_13 : decode cX11_nameOf 13 = .ok (.getfield 23, 3) := by decide +kernel
theorem dX11_nameOf_16 : decode cX11_nameOf 16 = .ok (.iload_n 1, 1) := by decide +kernel
theorem dX11_nameOf_17 : decode cX11_nameOf 17 = .ok (.iaload, 1) := by decide +kernel
theorem dX11_nameOf_18 : decode cX11_nameOf 18 = .ok (.if_icmp .ge 28, 3) := by decide +kernel
theorem dX11_nameOf_21 : decode cX11_nameOf 21 = .ok (.ldc2_w 140, 3) := by decide +kernel
theorem dX11_nameOf_24 : decode cX11_nameOf 24 = .ok (.lload_n 2, 1) := by decide +kernel
theorem dX11_nameOf_25 : decode cX11_nameOf 25 = .ok (.lmul, 1) := by decide +kernel
theorem dX11_nameOf_26 : decode cX11_nameOf 26 = .ok (.aload_n 0, 1) := by decide +kernel
theorem dX11_nameOf_27 : decode cX11_nameOf 27 = .ok (.getfield 9, 3) := by decide +kernel
theorem dX11_nameOf_30 : decode cX11_nameOf 30 = .ok (.iload 4, 2) := by decide +kernel
theorem dX11_nameOf_32 : decode cX11_nameOf 32 = .ok (.iaload, 1) := by decide +kernel
theorem dX11_nameOf_33 : decode cX11_nameOf 33 = .ok (.i2l, 1) := by decide +kernel
theorem dX11_nameOf_34 : decode cX11_nameOf 34 = .ok (.ladd, 1) := by decide +kernel
theorem dX11_nameOf_35 : decode cX11_nameOf 35 = .ok (.ldc2_w 142, 3) := by decide +kernel
theorem dX11_nameOf_38 : decode cX11_nameOf 38 = .ok (.lsub, 1) := by decide +kernel
theorem dX11_nameOf_39 : decode cX11_nameOf 39 = .ok (.lstore_n 2, 1) := by decide +kernel
theorem dX11_nameOf_40 : decode cX11_nameOf 40 = .ok (.iinc 4 1, 3) := by decide +kernel
theorem dX11_nameOf_43 : decode cX11_nameOf 43 = .ok (.goto (-33), 3) := by decide +kernel
theorem dX11_nameOf_46 : decode cX11_nameOf 46 = .ok (.lload_n 2, 1) := by decide +kernel
theorem dX11_nameOf_47 : decode cX11_nameOf 47 = .ok (.lreturn, 1) := by decide +kernel
theorem dX11_numberOf_0 : decode cX11_numberOf 0 = .ok (.iconst 0, 1) := by decide +kernel
theorem dX11_numberOf_1 : decode cX11_numberOf 1 = .ok (.istore_n 2, 1) := by decide +kernel
theorem dX11_numberOf_2 : decode cX11_numberOf 2 = .ok (.aload_n 0, 1) := by decide +kernel
theorem dX11_numberOf_3 : decode cX11_numberOf 3 = .ok (.getfield 20, 3) := by decide +kernel
theorem dX11_numberOf_6 : decode cX11_numberOf 6 = .ok (.iload_n 1, 1) := by decide +kernel
theorem dX11_numberOf_7 : decode cX11_numberOf 7 = .ok (.iaload, 1) := by decide +kernel
theorem dX11_numberOf_8 : decode cX11_numberOf 8 = .ok (.istore_n 3, 1) := by decide +kernel
theorem dX11_numberOf_9 : decode cX11_numberOf 9 = .ok (.iload_n 3, 1) := by decide +kernel
theorem dX11_numberOf_10 : decode cX11_numberOf 10 = .ok (.aload_n 0, 1) := by decide +kernel
theorem dX11_numberOf_11 : decode cX11_numberOf 11 = .ok (.getfield 23, 3) := by decide +kernel
theorem dX11_numberOf_14 : decode cX11_numberOf 14 = .ok (.iload_n 1, 1) := by decide +kernel
theorem dX11_numberOf_15 : decode cX11_numberOf 15 = .ok (.iaload, 1) := by decide +kernel
theorem dX11_numberOf_16 : decode cX11_numberOf 16 = .ok (.if_icmp .ge 24, 3) := by decide +kernel
theorem dX11_numberOf_19 : decode cX11_numberOf 19 = .ok (.bipush 10, 2) := by decide +kernel
theorem dX11_numberOf_21 : decode cX11_numberOf 21 = .ok (.iload_n 2, 1) := by decide +kernel
theorem dX11_numberOf_22 : decode cX11_numberOf 22 = .ok (.imul, 1) := by decide +kernel
theorem dX11_numberOf_23 : decode cX11_numberOf 23 = .ok (.aload_n 0, 1) := by decide +kernel
theorem dX11_numberOf_24 : decode cX11_numberOf 24 = .ok (.getfield 9, 3) := by decide +kernel
theorem dX11_numberOf_27 : decode cX11_numberOf 27 = .ok (.iload_n 3, 1) := by decide +kernel
theorem dX11_numberOf_28 : decode cX11_numberOf 28 = .ok (.iaload, 1) := by decide +kernel
theorem dX11_numberOf_29 : decode cX11_numberOf 29 = .ok (.iadd, 1) := by decide +kernel
theorem dX11_numberOf_30 : decode cX11_numberOf 30 = .ok (.bipush 48, 2) := by decide +kernel
theorem dX11_numberOf_32 : decode cX11_numberOf 32 = .ok (.isub, 1) := by decide +kernel
theorem dX11_numberOf_33 : decode cX11_numberOf 33 = .ok (.istore_n 2, 1) := by decide +kernel
theorem dX11_numberOf_34 : decode cX11_numberOf 34 = .ok (.iinc 3 1, 3) := by decide +kernel
theorem dX11_numberOf_37 : decode cX11_numberOf 37 = .ok (.goto (-28), 3) := by decide +kernel
theorem dX11_numberOf_40 : decode cX11_numberOf 40 = .ok (.iload_n 2, 1) := by decide +kernel
theorem dX11_numberOf_41 : decode cX11_numberOf 41 = .ok (.ireturn, 1) := by decide +kernel
theorem dX11_sees_0 : decode cX11_sees 0 = .ok (.aload_n 0, 1) := by decide +kernel
theorem dX11_sees_1 : decode cX11_sees 1 = .ok (.aload_n 0, 1) := by decide +kernel
theorem dX11_sees_2 : decode cX11_sees 2 = .ok (.getfield 144, 3) := by decide +kernel
theorem dX11_sees_5 : decode cX11_sees 5 = .ok (.aload_n 1, 1) := by decide +kernel
theorem dX11_sees_6 : decode cX11_sees 6 = .ok (.invokevirtual 136, 3) := by decide +kernel
theorem dX11_sees_9 : decode cX11_sees 9 = .ok (.ireturn, 1) := by decide +kernel
theorem dX11_takes_0 : decode cX11_takes 0 = .ok (.aload_n 0, 1) := by decide +kernel
theorem dX11_takes_1 : decode cX11_takes 1 = .ok (.aload_n 1, 1) := by decide +kernel
theorem dX11_takes_2 : decode cX11_takes 2 = .ok (.invokevirtual 147, 3) := by decide +kernel
theorem dX11_takes_5 : decode cX11_takes 5 = .ok (.ifCond .ne 5, 3) := by decide +kernel
theorem dX11_takes_8 : decode cX11_takes 8 = .ok (.iconst 0, 1) := by decide +kernel
theorem dX11_takes_9 : decode cX11_takes 9 = .ok (.ireturn, 1) := by decide +kernel
theorem dX11_takes_10 : decode cX11_takes 10 = .ok (.aload_n 0, 1) := by decide +kernel
theorem dX11_takes_11 : decode cX11_takes 11 = .ok (.dup, 1) := by decide +kernel
theorem dX11_takes_12 : decode cX11_takes 12 = .ok (.getfield 144, 3) := by decide +kernel
theorem dX11_takes_15 : decode cX11_takes 15 = .ok (.iconst 1, 1) := by decide +kernel
theorem dX11_takes_16 : decode cX11_takes 16 = .ok (.iadd, 1) := by decide +kernel
theorem dX11_takes_17 : decode cX11_takes 17 = .ok (.putfield 144, 3) := by decide +kernel
theorem dX11_takes_20 : decode cX11_takes 20 = .ok (.iconst 1, 1) := by decide +kernel
theorem dX11_takes_21 : decode cX11_takes 21 = .ok (.ireturn, 1) := by decide +kernel
theorem dX11_takesName_0 : decode cX11_takesName 0 = .ok (.aload_n 0, 1) := by decide +kernel
theorem dX11_takesName_1 : decode cX11_takesName 1 = .ok (.aload_n 0, 1) := by decide +kernel
theorem dX11_takesName_2 : decode cX11_takesName 2 = .ok (.getfield 144, 3) := by decide +kernel
theorem dX11_takesName_5 : decode cX11_takesName 5 = .ok (.invokevirtual 151, 3) := by decide +kernel
theorem dX11_takesName_8 : decode cX11_takesName 8 = .ok (.ifCond .ne 5, 3) := by decide +kernel
theorem dX11_takesName_11 : decode cX11_takesName 11 = .ok (.iconst 0, 1) := by decide +kernel
theorem dX11_takesName_12 : decode cX11_takesName 12 = .ok (.ireturn, 1) := by decide +kernel
theorem dX11_takesName_13 : decode cX11_takesName 13 = .ok (.aload_n 0, 1) := by decide +kernel
theorem dX11_takesName_14 : decode cX11_takesName 14 = .ok (.dup, 1) := by decide +kernel
theorem dX11_takesName_15 : decode cX11_takesName 15 = .ok (.getfield 144, 3) := by decide +kernel
theorem dX11_takesName_18 : decode cX11_takesName 18 = .ok (.iconst 1, 1) := by decide +kernel
theorem dX11_takesName_19 : decode cX11_takesName 19 = .ok (.iadd, 1) := by decide +kernel
theorem dX11_takesName_20 : decode cX11_takesName 20 = .ok (.putfield 144, 3) := by decide +kernel
theorem dX11_takesName_23 : decode cX11_takesName 23 = .ok (.iconst 1, 1) := by decide +kernel
theorem dX11_takesName_24 : decode cX11_takesName 24 = .ok (.ireturn, 1) := by decide +kernel
theorem dX11_takesNumber_0 : decode cX11_takesNumber 0 = .ok (.aload_n 0, 1) := by decide +kernel
theorem dX11_takesNumber_1 : decode cX11_takesNumber 1 = .ok (.getfield 17, 3) := by decide +kernel
theorem dX11_takesNumber_4 : decode cX11_takesNumber 4 = .ok (.aload_n 0, 1) := by decide +kernel
theorem dX11_takesNumber_5 : decode cX11_takesNumber 5 = .ok (.getfield 144, 3) := by decide +kernel
theorem dX11_takesNumber_8 : decode cX11_takesNumber 8 = .ok (.iaload, 1) := by decide +kernel
theorem dX11_takesNumber_9 : decode cX11_takesNumber 9 = .ok (.iconst 2, 1) := by decide +kernel
theorem dX11_takesNumber_10 : decode cX11_takesNumber 10 = .ok (.if_icmp .eq 5, 3) := by decide +kernel
theorem dX11_takesNumber_13 : decode cX11_takesNumber 13 = .ok (.iconst 0, 1) := by decide +kernel
theorem dX11_takesNumber_14 : decode cX11_takesNumber 14 = .ok (.ireturn, 1) := by decide +kernel
theorem dX11_takesNumber_15 : decode cX11_takesNumber 15 = .ok (.aload_n 0, 1) := by decide +kernel
theorem dX11_takesNumber_16 : decode cX11_takesNumber 16 = .ok (.dup, 1) := by decide +kernel
theorem dX11_takesNumber_17 : decode cX11_takesNumber 17 = .ok (.getfield 144, 3) := by decide +kernel
theorem dX11_takesNumber_20 : decode cX11_takesNumber 20 = .ok (.iconst 1, 1) := by decide +kernel
theorem dX11_takesNumber_21 : decode cX11_takesNumber 21 = .ok (.iadd, 1) := by decide +kernel
theorem dX11_takesNumber_22 : decode cX11_takesNumber 22 = .ok (.putfield 144, 3) := by decide +kernel
theorem dX11_takesNumber_25 : decode cX11_takesNumber 25 = .ok (.iconst 1, 1) := by decide +kernel
theorem dX11_takesNumber_26 : decode cX11_takesNumber 26 = .ok (.ireturn, 1) := by decide +kernel
theorem dX11_program_0 : decode cX11_program 0 = .ok (.aload_n 0, 1) := by decide +kernel
theorem dX11_program_1 : decode cX11_program 1 = .ok (.invokevirtual 154, 3) := by decide +kernel
theorem dX11_program_4 : decode cX11_program 4 = .ok (.ifCond .ne 5, 3) := by decide +kernel
theorem dX11_program_7 : decode cX11_program 7 = .ok (.iconst 0, 1) := by decide +kernel
theorem dX11_program_8 : decode cX11_program 8 = .ok (.ireturn, 1) := by decide +kernel
theorem dX11_program_9 : decode cX11_program 9 = .ok (.aload_n 0, 1) := by decide +kernel
theorem dX11_program_10 : decode cX11_program 10 = .ok (.getfield 17, 3) := by decide +kernel
theorem dX11_program_13 : decode cX11_program 13 = .ok (.aload_n 0, 1) := by decide +kernel
theorem dX11_program_14 : decode cX11_program 14 = .ok (.getfield 144, 3) := by decide +kernel
theorem dX11_program_17 : decode cX11_program 17 = .ok (.iaload, 1) := by decide +kernel
theorem dX11_program_18 : decode cX11_program 18 = .ok (.ifCond .ne (-18), 3) := by decide +kernel
theorem dX11_program_21 : decode cX11_program 21 = .ok (.iconst 1, 1) := by decide +kernel
theorem dX11_program_22 : decode cX11_program 22 = .ok (.ireturn, 1) := by decide +kernel
theorem dX11_item_0 : decode cX11_item 0 = .ok (.aload_n 0, 1) := by decide +kernel
theorem dX11_item_1 : decode cX11_item 1 = .ok (.ldc 158, 2) := by decide +kernel
theorem dX11_item_3 : decode cX11_item 3 = .ok (.invokevirtual 160, 3) := by decide +kernel
theorem dX11_item_6 : decode cX11_item 6 = .ok (.ifCond .eq 55, 3) := by decide +kernel
theorem dX11_item_9 : decode cX11_item 9 = .ok (.aload_n 0, 1) := by decide +kernel
theorem dX11_item_10 : decode cX11_item 10 = .ok (.invokevirtual 163, 3) := by decide +kernel
theorem dX11_item_13 : decode cX11_item 13 = .ok (.ifCond .eq 46, 3) := by decide +kernel
theorem dX11_item_16 : decode cX11_item 16 = .ok (.aload_n 0, 1) := by decide +kernel
theorem dX11_item_17 : decode cX11_item 17 = .ok (.invokevirtual 166, 3) := by decide +kernel
theorem dX11_item_20 : decode cX11_item 20 = .ok (.ifCond .eq 39, 3) := by decide +kernel
theorem dX11_item_23 : decode cX11_item 23 = .ok (.aload_n 0, 1) := by decide +kernel
theorem dX11_item_24 : decode cX11_item 24 = .ok (.ldc 169, 2) := by decide +kernel
theorem dX11_item_26 : decode cX11_item 26 = .ok (.invokevirtual 160, 3) := by decide +kernel
theorem dX11_item_29 : decode cX11_item 29 = .ok (.ifCond .eq 10, 3) := by decide +kernel
theorem dX11_item_32 : decode cX11_item 32 = .ok (.aload_n 0, 1) := by decide +kernel
theorem dX11_item_33 : decode cX11_item 33 = .ok (.invokevirtual 166, 3) := by decide +kernel
theorem dX11_item_36 : decode cX11_item 36 = .ok (.ifCond .eq 23, 3) := by decide +kernel
theorem dX11_item_39 : decode cX11_item 39 = .ok (.aload_n 0, 1) := by decide +kernel
theorem dX11_item_40 : decode cX11_item 40 = .ok (.invokevirtual 171, 3) := by decide +kernel
theorem dX11_item_43 : decode cX11_item 43 = .ok (.ifCond .eq 16, 3) := by decide +kernel
theorem dX11_item_46 : decode cX11_item 46 = .ok (.aload_n 0, 1) := by decide +kernel
theorem dX11_item_47 : decode cX11_item 47 = .ok (.ldc 174, 2) := by decide +kernel
theorem dX11_item_49 : decode cX11_item 49 = .ok (.invokevirtual 160, 3) := by decide +kernel
theorem dX11_item_52 : decode cX11_item 52 = .ok (.ifCond .eq 7, 3) := by decide +kernel
theorem dX11_item_55 : decode cX11_item 55 = .ok (.iconst 1, 1) := by decide +kernel
theorem dX11_item_56 : decode cX11_item 56 = .ok (.goto 4, 3) := by decide +kernel
theorem dX11_item_59 : decode cX11_item 59 = .ok (.iconst 0, 1) := by decide +kernel
theorem dX11_item_60 : decode cX11_item 60 = .ok (.ireturn, 1) := by decide +kernel
theorem dX11_item_61 : decode cX11_item 61 = .ok (.aload_n 0, 1) := by decide +kernel
theorem dX11_item_62 : decode cX11_item 62 = .ok (.ldc 176, 2) := by decide +kernel
theorem dX11_item_64 : decode cX11_item 64 = .ok (.invokevirtual 160, 3) := by decide +kernel
theorem dX11_item_67 : decode cX11_item 67 = .ok (.ifCond .eq 64, 3) := by decide +kernel
theorem dX11_item_70 : decode cX11_item 70 = .ok (.aload_n 0, 1) := by decide +kernel
theorem dX11_item_71 : decode cX11_item 71 = .ok (.invokevirtual 163, 3) := by decide +kernel
theorem dX11_item_74 : decode cX11_item 74 = .ok (.ifCond .eq 55, 3) := by decide +kernel
theorem dX11_item_77 : decode cX11_item 77 = .ok (.aload_n 0, 1) := by decide +kernel
theorem dX11_item_78 : decode cX11_item 78 = .ok (.ldc 178, 2) := by decide +kernel
theorem dX11_item_80 : decode cX11_item 80 = .ok (.invokevirtual 160, 3) := by decide +kernel
theorem dX11_item_83 : decode cX11_item 83 = .ok (.ifCond .eq 46, 3) := by decide +kernel
theorem dX11_item_86 : decode cX11_item 86 = .ok (.aload_n 0, 1) := by decide +kernel
theorem dX11_item_87 : decode cX11_item 87 = .ok (.invokevirtual 166, 3) := by decide +kernel
theorem dX11_item_90 : decode cX11_item 90 = .ok (.ifCond .eq 39, 3) := by decide +kernel
theorem dX11_item_93 : decode cX11_item 93 = .ok (.aload_n 0, 1) := by decide +kernel
theorem dX11_item_94 : decode cX11_item 94 = .ok (.ldc 180, 2) := by decide +kernel
theorem dX11_item_96 : decode cX11_item 96 = .ok (.invokevirtual 160, 3) := by decide +kernel
theorem dX11_item_99 : decode cX11_item 99 = .ok (.ifCond .eq 30, 3) := by decide +kernel
theorem dX11_item_102 : decode cX11_item 102 = .ok (.aload_n 0, 1) := by decide +kernel
theorem dX11_item_103 : decode cX11_item 103 = .ok (.invokevirtual 182, 3) := by decide +kernel
theorem dX11_item_106 : decode cX11_item 106 = .ok (.ifCond .eq 23, 3) := by decide +kernel
theorem dX11_item_109 : decode cX11_item 109 = .ok (.aload_n 0, 1) := by decide +kernel
theorem dX11_item_110 : decode cX11_item 110 = .ok (.invokevirtual 171, 3) := by decide +kernel
theorem dX11_item_113 : decode cX11_item 113 = .ok (.ifCond .eq 16, 3) := by decide +kernel
theorem dX11_item_116 : decode cX11_item 116 = .ok (.aload_n 0, 1) := by decide +kernel
theorem dX11_item_117 : decode cX11_item 117 = .ok (.ldc 174, 2) := by decide +kernel
theorem dX11_item_119 : decode cX11_item 119 = .ok (.invokevirtual 160, 3) := by decide +kernel
theorem dX11_item_122 : decode cX11_item 122 = .ok (.ifCond .eq 7, 3) := by decide +kernel
theorem dX11_item_125 : decode cX11_item 125 = .ok (.iconst 1, 1) := by decide +kernel
theorem dX11_item_126 : decode cX11_item 126 = .ok (.goto 4, 3) := by decide +kernel
theorem dX11_item_129 : decode cX11_item 129 = .ok (.iconst 0, 1) := by decide +kernel
theorem dX11_item_130 : decode cX11_item 130 = .ok (.ireturn, 1) := by decide +kernel
theorem dX11_item_131 : decode cX11_item 131 = .ok (.aload_n 0, 1) := by decide +kernel
theorem dX11_item_132 : decode cX11_item 132 = .ok (.ldc 185, 2) := by decide +kernel
theorem dX11_item_134 : decode cX11_item 134 = .ok (.invokevirtual 160, 3) := by decide +kernel
theorem dX11_item_137 : decode cX11_item 137 = .ok (.ifCond .eq 41, 3) := by decide +kernel
theorem dX11_item_140 : decode cX11_item 140 = .ok (.aload_n 0, 1) := by decide +kernel
theorem dX11_item_141 : decode cX11_item 141 = .ok (.invokevirtual 163, 3) := by decide +kernel
theorem dX11_item_144 : decode cX11_item 144 = .ok (.ifCond .eq 32, 3) := by decide +kernel
theorem dX11_item_147 : decode cX11_item 147 = .ok (.aload_n 0, 1) := by decide +kernel
theorem dX11_item_148 : decode cX11_item 148 = .ok (.ldc 180, 2) := by decide +kernel
theorem dX11_item_150 : decode cX11_item 150 = .ok (.invokevirtual 160, 3) := by decide +kernel
theorem dX11_item_153 : decode cX11_item 153 = .ok (.ifCond .eq 23, 3) := by decide +kernel
theorem dX11_item_156 : decode cX11_item 156 = .ok (.aload_n 0, 1) := by decide +kernel
theorem dX11_item_157 : decode cX11_item 157 = .ok (.invokevirtual 187, 3) := by decide +kernel
theorem dX11_item_160 : decode cX11_item 160 = .ok (.ifCond .eq 16, 3) := by decide +kernel
theorem dX11_item_163 : decode cX11_item 163 = .ok (.aload_n 0, 1) := by decide +kernel
theorem dX11_item_164 : decode cX11_item 164 = .ok (.ldc 174, 2) := by decide +kernel
theorem dX11_item_166 : decode cX11_item 166 = .ok (.invokevirtual 160, 3) := by decide +kernel
theorem dX11_item_169 : decode cX11_item 169 = .ok (.ifCond .eq 7, 3) := by decide +kernel
theorem dX11_item_172 : decode cX11_item 172 = .ok (.iconst 1, 1) := by decide +kernel
theorem dX11_item_173 : decode cX11_item 173 = .ok (.goto 4, 3) := by decide +kernel
theorem dX11_item_176 : decode cX11_item 176 = .ok (.iconst 0, 1) := by decide +kernel
theorem dX11_item_177 : decode cX11_item 177 = .ok (.ireturn, 1) := by decide +kernel
theorem dX11_item_178 : decode cX11_item 178 = .ok (.aload_n 0, 1) := by decide +kernel
theorem dX11_item_179 : decode cX11_item 179 = .ok (.ldc 190, 2) := by decide +kernel
theorem dX11_item_181 : decode cX11_item 181 = .ok (.invokevirtual 160, 3) := by decide +kernel
theorem dX11_item_184 : decode cX11_item 184 = .ok (.ifCond .eq 23, 3) := by decide +kernel
theorem dX11_item_187 : decode cX11_item 187 = .ok (.aload_n 0, 1) := by decide +kernel
theorem dX11_item_188 : decode cX11_item 188 = .ok (.invokevirtual 192, 3) := by decide +kernel
theorem dX11_item_191 : decode cX11_item 191 = .ok (.ifCond .eq 16, 3) := by decide +kernel
theorem dX11_item_194 : decode cX11_item 194 = .ok (.aload_n 0, 1) := by decide +kernel
theorem dX11_item_195 : decode cX11_item 195 = .ok (.ldc 174, 2) := by decide +kernel
theorem dX11_item_197 : decode cX11_item 197 = .ok (.invokevirtual 160, 3) := by decide +kernel
theorem dX11_item_200 : decode cX11_item 200 = .ok (.ifCond .eq 7, 3) := by decide +kernel
theorem dX11_item_203 : decode cX11_item 203 = .ok (.iconst 1, 1) := by decide +kernel
theorem dX11_item_204 : decode cX11_item 204 = .ok (.goto 4, 3) := by decide +kernel
theorem dX11_item_207 : decode cX11_item 207 = .ok (.iconst 0, 1) := by decide +kernel
theorem dX11_item_208 : decode cX11_item 208 = .ok (.ireturn, 1) := by decide +kernel
theorem dX11_tagsForm_0 : decode cX11_tagsForm 0 = .ok (.aload_n 0, 1) := by decide +kernel
theorem dX11_tagsForm_1 : decode cX11_tagsForm 1 = .ok (.ldc 195, 2) := by decide +kernel
theorem dX11_tagsForm_3 : decode cX11_tagsForm 3 = .ok (.invokevirtual 160, 3) := by decide +kernel
theorem dX11_tagsForm_6 : decode cX11_tagsForm 6 = .ok (.ifCond .ne 5, 3) := by decide +kernel
theorem dX11_tagsForm_9 : decode cX11_tagsForm 9 = .ok (.iconst 1, 1) := by decide +kernel
theorem dX11_tagsForm_10 : decode cX11_tagsForm 10 = .ok (.ireturn, 1) := by decide +kernel
theorem dX11_tagsForm_11 : decode cX11_tagsForm 11 = .ok (.aload_n 0, 1) := by decide +kernel
theorem dX11_tagsForm_12 : decode cX11_tagsForm 12 = .ok (.invokevirtual 163, 3) := by decide +kernel
theorem dX11_tagsForm_15 : decode cX11_tagsForm 15 = .ok (.ifCond .ne 5, 3) := by decide +kernel
theorem dX11_tagsForm_18 : decode cX11_tagsForm 18 = .ok (.iconst 0, 1) := by decide +kernel
theorem dX11_tagsForm_19 : decode cX11_tagsForm 19 = .ok (.ireturn, 1) := by decide +kernel
theorem dX11_tagsForm_20 : decode cX11_tagsForm 20 = .ok (.aload_n 0, 1) := by decide +kernel
theorem dX11_tagsForm_21 : decode cX11_tagsForm 21 = .ok (.ldc 196, 2) := by decide +kernel
theorem dX11_tagsForm_23 : decode cX11_tagsForm 23 = .ok (.invokevirtual 160, 3) := by decide +kernel
theorem dX11_tagsForm_26 : decode cX11_tagsForm 26 = .ok (.ifCond .eq 12, 3) := by decide +kernel
theorem dX11_tagsForm_29 : decode cX11_tagsForm 29 = .ok (.aload_n 0, 1) := by decide +kernel
theorem dX11_tagsForm_30 : decode cX11_tagsForm 30 = .ok (.invokevirtual 163, 3) := by decide +kernel
theorem dX11_tagsForm_33 : decode cX11_tagsForm 33 = .ok (.ifCond .ne (-13), 3) := by decide +kernel
theorem dX11_tagsForm_36 : decode cX11_tagsForm 36 = .ok (.iconst 0, 1) := by decide +kernel
theorem dX11_tagsForm_37 : decode cX11_tagsForm 37 = .ok (.ireturn, 1) := by decide +kernel
theorem dX11_tagsForm_38 : decode cX11_tagsForm 38 = .ok (.iconst 1, 1) := by decide +kernel
theorem dX11_tagsForm_39 : decode cX11_tagsForm 39 = .ok (.ireturn, 1) := by decide +kernel
theorem dX11_partsForm_0 : decode cX11_partsForm 0 = .ok (.aload_n 0, 1) := by decide +kernel
theorem dX11_partsForm_1 : decode cX11_partsForm 1 = .ok (.invokevirtual 166, 3) := by decide +kernel
theorem dX11_partsForm_4 : decode cX11_partsForm 4 = .ok (.ifCond .ne 5, 3) := by decide +kernel
theorem dX11_partsForm_7 : decode cX11_partsForm 7 = .ok (.iconst 0, 1) := by decide +kernel
theorem dX11_partsForm_8 : decode cX11_partsForm 8 = .ok (.ireturn, 1) := by decide +kernel
theorem dX11_partsForm_9 : decode cX11_partsForm 9 = .ok (.aload_n 0, 1) := by decide +kernel
theorem dX11_partsForm_10 : decode cX11_partsForm 10 = .ok (.ldc 198, 2) := by decide +kernel
theorem dX11_partsForm_12 : decode cX11_partsForm 12 = .ok (.invokevirtual 160, 3) := by decide +kernel
theorem dX11_partsForm_15 : decode cX11_partsForm 15 = .ok (.pop, 1) := by decide +kernel
theorem dX11_partsForm_16 : decode cX11_partsForm 16 = .ok (.aload_n 0, 1) := by decide +kernel
theorem dX11_partsForm_17 : decode cX11_partsForm 17 = .ok (.invokevirtual 163, 3) := by decide +kernel
theorem dX11_partsForm_20 : decode cX11_partsForm 20 = .ok (.ifCond .ne 5, 3) := by decide +kernel
theorem dX11_partsForm_23 : decode cX11_partsForm 23 = .ok (.iconst 0, 1) := by decide +kernel
theorem dX11_partsForm_24 : decode cX11_partsForm 24 = .ok (.ireturn, 1) := by decide +kernel
theorem dX11_partsForm_25 : decode cX11_partsForm 25 = .ok (.aload_n 0, 1) := by decide +kernel
theorem dX11_partsForm_26 : decode cX11_partsForm 26 = .ok (.ldc 196, 2) := by decide +kernel
theorem dX11_partsForm_28 : decode cX11_partsForm 28 = .ok (.invokevirtual 160, 3) := by decide +kernel
theorem dX11_partsForm_31 : decode cX11_partsForm 31 = .ok (.ifCond .ne (-31), 3) := by decide +kernel
theorem dX11_partsForm_34 : decode cX11_partsForm 34 = .ok (.iconst 1, 1) := by decide +kernel
theorem dX11_partsForm_35 : decode cX11_partsForm 35 = .ok (.ireturn, 1) := by decide +kernel
theorem dX11_choicesForm_0 : decode cX11_choicesForm 0 = .ok (.aload_n 0, 1) := by decide +kernel
theorem dX11_choicesForm_1 : decode cX11_choicesForm 1 = .ok (.invokevirtual 200, 3) := by decide +kernel
theorem dX11_choicesForm_4 : decode cX11_choicesForm 4 = .ok (.ifCond .ne 5, 3) := by decide +kernel
theorem dX11_choicesForm_7 : decode cX11_choicesForm 7 = .ok (.iconst 0, 1) := by decide +kernel
theorem dX11_choicesForm_8 : decode cX11_choicesForm 8 = .ok (.ireturn, 1) := by decide +kernel
theorem dX11_choicesForm_9 : decode cX11_choicesForm 9 = .ok (.aload_n 0, 1) := by decide +kernel
theorem dX11_choicesForm_10 : decode cX11_choicesForm 10 = .ok (.ldc 196, 2) := by decide +kernel
theorem dX11_choicesForm_12 : decode cX11_choicesForm 12 = .ok (.invokevirtual 160, 3) := by decide +kernel
theorem dX11_choicesForm_15 : decode cX11_choicesForm 15 = .ok (.ifCond .ne (-15), 3) := by decide +kernel
theorem dX11_choicesForm_18 : decode cX11_choicesForm 18 = .ok (.iconst 1, 1) := by decide +kernel
theorem dX11_choicesForm_19 : decode cX11_choicesForm 19 = .ok (.ireturn, 1) := by decide +kernel
theorem dX11_ruleForm_0 : decode cX11_ruleForm 0 = .ok (.aload_n 0, 1) := by decide +kernel
theorem dX11_ruleForm_1 : decode cX11_ruleForm 1 = .ok (.ldc 203, 2) := by decide +kernel
theorem dX11_ruleForm_3 : decode cX11_ruleForm 3 = .ok (.invokevirtual 160, 3) := by decide +kernel
theorem dX11_ruleForm_6 : decode cX11_ruleForm 6 = .ok (.ifCond .eq 23, 3) := by decide +kernel
theorem dX11_ruleForm_9 : decode cX11_ruleForm 9 = .ok (.aload_n 0, 1) := by decide +kernel
theorem dX11_ruleForm_10 : decode cX11_ruleForm 10 = .ok (.invokevirtual 166, 3) := by decide +kernel
theorem dX11_ruleForm_13 : decode cX11_ruleForm 13 = .ok (.ifCond .eq 14, 3) := by decide +kernel
theorem dX11_ruleForm_16 : decode cX11_ruleForm 16 = .ok (.aload_n 0, 1) := by decide +kernel
theorem dX11_ruleForm_17 : decode cX11_ruleForm 17 = .ok (.invokevirtual 163, 3) := by decide +kernel
theorem dX11_ruleForm_20 : decode cX11_ruleForm 20 = .ok (.ifCond .eq 7, 3) := by decide +kernel
theorem dX11_ruleForm_23 : decode cX11_ruleForm 23 = .ok (.iconst 1, 1) := by decide +kernel
theorem dX11_ruleForm_24 : decode cX11_ruleForm 24 = .ok (.goto 4, 3) := by decide +kernel
theorem dX11_ruleForm_27 : decode cX11_ruleForm 27 = .ok (.iconst 0, 1) := by decide +kernel
theorem dX11_ruleForm_28 : decode cX11_ruleForm 28 = .ok (.ireturn, 1) := by decide +kernel
theorem dX11_ruleForm_29 : decode cX11_ruleForm 29 = .ok (.aload_n 0, 1) := by decide +kernel
theorem dX11_ruleForm_30 : decode cX11_ruleForm 30 = .ok (.ldc 205, 2) := by decide +kernel
theorem dX11_ruleForm_32 : decode cX11_ruleForm 32 = .ok (.invokevirtual 160, 3) := by decide +kernel
theorem dX11_ruleForm_35 : decode cX11_ruleForm 35 = .ok (.ifCond .eq 32, 3) := by decide +kernel
theorem dX11_ruleForm_38 : decode cX11_ruleForm 38 = .ok (.aload_n 0, 1) := by decide +kernel
theorem dX11_ruleForm_39 : decode cX11_ruleForm 39 = .ok (.invokevirtual 166, 3) := by decide +kernel
theorem dX11_ruleForm_42 : decode cX11_ruleForm 42 = .ok (.ifCond .eq 23, 3) := by decide +kernel
theorem dX11_ruleForm_45 : decode cX11_ruleForm 45 = .ok (.aload_n 0, 1) := by decide +kernel
theorem dX11_ruleForm_46 : decode cX11_ruleForm 46 = .ok (.ldc 207, 2) := by decide +kernel
theorem dX11_ruleForm_48 : decode cX11_ruleForm 48 = .ok (.invokevirtual 160, 3) := by decide +kernel
theorem dX11_ruleForm_51 : decode cX11_ruleForm 51 = .ok (.ifCond .eq 14, 3) := by decide +kernel
theorem dX11_ruleForm_54 : decode cX11_ruleForm 54 = .ok (.aload_n 0, 1) := by decide +kernel
theorem dX11_ruleForm_55 : decode cX11_ruleForm 55 = .ok (.invokevirtual 166, 3) := by decide +kernel
theorem dX11_ruleForm_58 : decode cX11_ruleForm 58 = .ok (.ifCond .eq 7, 3) := by decide +kernel
theorem dX11_ruleForm_61 : decode cX11_ruleForm 61 = .ok (.iconst 1, 1) := by decide +kernel
theorem dX11_ruleForm_62 : decode cX11_ruleForm 62 = .ok (.goto 4, 3) := by decide +kernel
theorem dX11_ruleForm_65 : decode cX11_ruleForm 65 = .ok (.iconst 0, 1) := by decide +kernel
theorem dX11_ruleForm_66 : decode cX11_ruleForm 66 = .ok (.ireturn, 1) := by decide +kernel
theorem dX11_ruleForm_67 : decode cX11_ruleForm 67 = .ok (.aload_n 0, 1) := by decide +kernel
theorem dX11_ruleForm_68 : decode cX11_ruleForm 68 = .ok (.ldc 209, 2) := by decide +kernel
theorem dX11_ruleForm_70 : decode cX11_ruleForm 70 = .ok (.invokevirtual 160, 3) := by decide +kernel
theorem dX11_ruleForm_73 : decode cX11_ruleForm 73 = .ok (.ifCond .ne 12, 3) := by decide +kernel
theorem dX11_ruleForm_76 : decode cX11_ruleForm 76 = .ok (.aload_n 0, 1) := by decide +kernel
theorem dX11_ruleForm_77 : decode cX11_ruleForm 77 = .ok (.ldc 211, 2) := by decide +kernel
theorem dX11_ruleForm_79 : decode cX11_ruleForm 79 = .ok (.invokevirtual 160, 3) := by decide +kernel
theorem dX11_ruleForm_82 : decode cX11_ruleForm 82 = .ok (.ifCond .eq 37, 3) := by decide +kernel
theorem dX11_ruleForm_85 : decode cX11_ruleForm 85 = .ok (.aload_n 0, 1) := by decide +kernel
theorem dX11_ruleForm_86 : decode cX11_ruleForm 86 = .ok (.invokevirtual 166, 3) := by decide +kernel
theorem dX11_ruleForm_89 : decode cX11_ruleForm 89 = .ok (.ifCond .eq 30, 3) := by decide +kernel
theorem dX11_ruleForm_92 : decode cX11_ruleForm 92 = .ok (.aload_n 0, 1) := by decide +kernel
theorem dX11_ruleForm_93 : decode cX11_ruleForm 93 = .ok (.invokevirtual 163, 3) := by decide +kernel
theorem dX11_ruleForm_96 : decode cX11_ruleForm 96 = .ok (.ifCond .eq 23, 3) := by decide +kernel
theorem dX11_ruleForm_99 : decode cX11_ruleForm 99 = .ok (.aload_n 0, 1) := by decide +kernel
theorem dX11_ruleForm_100 : decode cX11_ruleForm 100 = .ok (.ldc 213, 2) := by decide +kernel
theorem dX11_ruleForm_102 : decode cX11_ruleForm 102 = .ok (.invokevirtual 160, 3) := by decide +kernel
theorem dX11_ruleForm_105 : decode cX11_ruleForm 105 = .ok (.ifCond .eq 14, 3) := by decide +kernel
theorem dX11_ruleForm_108 : decode cX11_ruleForm 108 = .ok (.aload_n 0, 1) := by decide +kernel
theorem dX11_ruleForm_109 : decode cX11_ruleForm 109 = .ok (.invokevirtual 166, 3) := by decide +kernel
theorem dX11_ruleForm_112 : decode cX11_ruleForm 112 = .ok (.ifCond .eq 7, 3) := by decide +kernel
theorem dX11_ruleForm_115 : decode cX11_ruleForm 115 = .ok (.iconst 1, 1) := by decide +kernel
theorem dX11_ruleForm_116 : decode cX11_ruleForm 116 = .ok (.goto 4, 3) := by decide +kernel
theorem dX11_ruleForm_119 : decode cX11_ruleForm 119 = .ok (.iconst 0, 1) := by decide +kernel
theorem dX11_ruleForm_120 : decode cX11_ruleForm 120 = .ok (.ireturn, 1) := by decide +kernel
theorem dX11_choiceForm_0 : decode cX11_choiceForm 0 = .ok (.aload_n 0, 1) := by decide +kernel
theorem dX11_choiceForm_1 : decode cX11_choiceForm 1 = .ok (.aload_n 0, 1) := by decide +kernel
theorem dX11_choiceForm_2 : decode cX11_choiceForm 2 = .ok (.getfield 144, 3) := by decide +kernel
theorem dX11_choiceForm_5 : decode cX11_choiceForm 5 = .ok (.putfield 215, 3) := by decide +kernel
theorem dX11_choiceForm_8 : decode cX11_choiceForm 8 = .ok (.aload_n 0, 1) := by decide +kernel
theorem dX11_choiceForm_9 : decode cX11_choiceForm 9 = .ok (.iconst 0, 1) := by decide +kernel
theorem dX11_choiceForm_10 : decode cX11_choiceForm 10 = .ok (.invokevirtual 218, 3) := by decide +kernel
theorem dX11_choiceForm_13 : decode cX11_choiceForm 13 = .ok (.ireturn, 1) := by decide +kernel
theorem dX11_goes_0 : decode cX11_goes 0 = .ok (.aload_n 0, 1) := by decide +kernel
theorem dX11_goes_1 : decode cX11_goes 1 = .ok (.getfield 144, 3) := by decide +kernel
theorem dX11_goes_4 : decode cX11_goes 4 = .ok (.aload_n 0, 1) := by decide +kernel
theorem dX11_goes_5 : decode cX11_goes 5 = .ok (.getfield 215, 3) := by decide +kernel
theorem dX11_goes_8 : decode cX11_goes 8 = .ok (.isub, 1) := by decide +kernel
theorem dX11_goes_9 : decode cX11_goes 9 = .ok (.bipush 30, 2) := by decide +kernel
theorem dX11_goes_11 : decode cX11_goes 11 = .ok (.if_icmp .ne 5, 3) := by decide +kernel
theorem dX11_goes_14 : decode cX11_goes 14 = .ok (.iconst 0, 1) := by decide +kernel
theorem dX11_goes_15 : decode cX11_goes 15 = .ok (.ireturn, 1) := by decide +kernel
theorem dX11_goes_16 : decode cX11_goes 16 = .ok (.aload_n 0, 1) := by decide +kernel
theorem dX11_goes_17 : decode cX11_goes 17 = .ok (.dup, 1) := by decide +kernel
theorem dX11_goes_18 : decode cX11_goes 18 = .ok (.getfield 144, 3) := by decide +kernel
theorem dX11_goes_21 : decode cX11_goes 21 = .ok (.iconst 1, 1) := by decide +kernel
theorem dX11_goes_22 : decode cX11_goes 22 = .ok (.iadd, 1) := by decide +kernel
theorem dX11_goes_23 : decode cX11_goes 23 = .ok (.putfield 144, 3) := by decide +kernel
theorem dX11_goes_26 : decode cX11_goes 26 = .ok (.iconst 1, 1) := by decide +kernel
theorem dX11_goes_27 : decode cX11_goes 27 = .ok (.ireturn, 1) := by decide +kernel
theorem dX11_anyForm_0 : decode cX11_anyForm 0 = .ok (.aload_n 0, 1) := by decide +kernel
theorem dX11_anyForm_1 : decode cX11_anyForm 1 = .ok (.iload_n 1, 1) := by decide +kernel
theorem dX11_anyForm_2 : decode cX11_anyForm 2 = .ok (.invokevirtual 221, 3) := by decide +kernel
theorem dX11_anyForm_5 : decode cX11_anyForm 5 = .ok (.ifCond .ne 5, 3) := by decide +kernel
theorem dX11_anyForm_8 : decode cX11_anyForm 8 = .ok (.iconst 0, 1) := by decide +kernel
theorem dX11_anyForm_9 : decode cX11_anyForm 9 = .ok (.ireturn, 1) := by decide +kernel
theorem dX11_anyForm_10 : decode cX11_anyForm 10 = .ok (.aload_n 0, 1) := by decide +kernel
theorem dX11_anyForm_11 : decode cX11_anyForm 11 = .ok (.ldc 224, 2) := by decide +kernel
theorem dX11_anyForm_13 : decode cX11_anyForm 13 = .ok (.invokevirtual 147, 3) := by decide +kernel
theorem dX11_anyForm_16 : decode cX11_anyForm 16 = .ok (.ifCond .eq 20, 3) := by decide +kernel
theorem dX11_anyForm_19 : decode cX11_anyForm 19 = .ok (.aload_n 0, 1) := by decide +kernel
theorem dX11_anyForm_20 : decode cX11_anyForm 20 = .ok (.invokevirtual 226, 3) := by decide +kernel
theorem dX11_anyForm_23 : decode cX11_anyForm 23 = .ok (.ifCond .eq 11, 3) := by decide +kernel
theorem dX11_anyForm_26 : decode cX11_anyForm 26 = .ok (.aload_n 0, 1) := by decide +kernel
theorem dX11_anyForm_27 : decode cX11_anyForm 27 = .ok (.iload_n 1, 1) := by decide +kernel
theorem dX11_anyForm_28 : decode cX11_anyForm 28 = .ok (.invokevirtual 221, 3) := by decide +kernel
theorem dX11_anyForm_31 : decode cX11_anyForm 31 = .ok (.ifCond .ne (-21), 3) := by decide +kernel
theorem dX11_anyForm_34 : decode cX11_anyForm 34 = .ok (.iconst 0, 1) := by decide +kernel
theorem dX11_anyForm_35 : decode cX11_anyForm 35 = .ok (.ireturn, 1) := by decide +kernel
theorem dX11_anyForm_36 : decode cX11_anyForm 36 = .ok (.iconst 1, 1) := by decide +kernel
theorem dX11_anyForm_37 : decode cX11_anyForm 37 = .ok (.ireturn, 1) := by decide +kernel
theorem dX11_bothForm_0 : decode cX11_bothForm 0 = .ok (.aload_n 0, 1) := by decide +kernel
theorem dX11_bothForm_1 : decode cX11_bothForm 1 = .ok (.iload_n 1, 1) := by decide +kernel
theorem dX11_bothForm_2 : decode cX11_bothForm 2 = .ok (.invokevirtual 229, 3) := by decide +kernel
theorem dX11_bothForm_5 : decode cX11_bothForm 5 = .ok (.ifCond .ne 5, 3) := by decide +kernel
theorem dX11_bothForm_8 : decode cX11_bothForm 8 = .ok (.iconst 0, 1) := by decide +kernel
theorem dX11_bothForm_9 : decode cX11_bothForm 9 = .ok (.ireturn, 1) := by decide +kernel
theorem dX11_bothForm_10 : decode cX11_bothForm 10 = .ok (.aload_n 0, 1) := by decide +kernel
theorem dX11_bothForm_11 : decode cX11_bothForm 11 = .ok (.ldc 232, 2) := by decide +kernel
theorem dX11_bothForm_13 : decode cX11_bothForm 13 = .ok (.invokevirtual 147, 3) := by decide +kernel
theorem dX11_bothForm_16 : decode cX11_bothForm 16 = .ok (.ifCond .eq 20, 3) := by decide +kernel
theorem dX11_bothForm_19 : decode cX11_bothForm 19 = .ok (.aload_n 0, 1) := by decide +kernel
theorem dX11_bothForm_20 : decode cX11_bothForm 20 = .ok (.invokevirtual 226, 3) := by decide +kernel
theorem dX11_bothForm_23 : decode cX11_bothForm 23 = .ok (.ifCond .eq 11, 3) := by decide +kernel
theorem dX11_bothForm_26 : decode cX11_bothForm 26 = .ok (.aload_n 0, 1) := by decide +kernel
theorem dX11_bothForm_27 : decode cX11_bothForm 27 = .ok (.iload_n 1, 1) := by decide +kernel
theorem dX11_bothForm_28 : decode cX11_bothForm 28 = .ok (.invokevirtual 229, 3) := by decide +kernel
theorem dX11_bothForm_31 : decode cX11_bothForm 31 = .ok (.ifCond .ne (-21), 3) := by decide +kernel
theorem dX11_bothForm_34 : decode cX11_bothForm 34 = .ok (.iconst 0, 1) := by decide +kernel
theorem dX11_bothForm_35 : decode cX11_bothForm 35 = .ok (.ireturn, 1) := by decide +kernel
theorem dX11_bothForm_36 : decode cX11_bothForm 36 = .ok (.iconst 1, 1) := by decide +kernel
theorem dX11_bothForm_37 : decode cX11_bothForm 37 = .ok (.ireturn, 1) := by decide +kernel
theorem dX11_oneForm_0 : decode cX11_oneForm 0 = .ok (.aload_n 0, 1) := by decide +kernel
theorem dX11_oneForm_1 : decode cX11_oneForm 1 = .ok (.aload_n 0, 1) := by decide +kernel
theorem dX11_oneForm_2 : decode cX11_oneForm 2 = .ok (.getfield 144, 3) := by decide +kernel
theorem dX11_oneForm_5 : decode cX11_oneForm 5 = .ok (.invokevirtual 151, 3) := by decide +kernel
theorem dX11_oneForm_8 : decode cX11_oneForm 8 = .ok (.ifCond .eq 8, 3) := by decide +kernel
theorem dX11_oneForm_11 : decode cX11_oneForm 11 = .ok (.aload_n 0, 1) := by decide +kernel
theorem dX11_oneForm_12 : decode cX11_oneForm 12 = .ok (.invokevirtual 226, 3) := by decide +kernel
theorem dX11_oneForm_15 : decode cX11_oneForm 15 = .ok (.ireturn, 1) := by decide +kernel
theorem dX11_oneForm_16 : decode cX11_oneForm 16 = .ok (.aload_n 0, 1) := by decide +kernel
theorem dX11_oneForm_17 : decode cX11_oneForm 17 = .ok (.ldc 234, 2) := by decide +kernel
theorem dX11_oneForm_19 : decode cX11_oneForm 19 = .ok (.invokevirtual 147, 3) := by decide +kernel
theorem dX11_oneForm_22 : decode cX11_oneForm 22 = .ok (.istore_n 2, 1) := by decide +kernel
theorem dX11_oneForm_23 : decode cX11_oneForm 23 = .ok (.iload_n 2, 1) := by decide +kernel
theorem dX11_oneForm_24 : decode cX11_oneForm 24 = .ok (.ifCond .ne 12, 3) := by decide +kernel
theorem dX11_oneForm_27 : decode cX11_oneForm 27 = .ok (.aload_n 0, 1) := by decide +kernel
theorem dX11_oneForm_28 : decode cX11_oneForm 28 = .ok (.ldc 236, 2) := by decide +kernel
theorem dX11_oneForm_30 : decode cX11_oneForm 30 = .ok (.invokevirtual 147, 3) := by decide +kernel
theorem dX11_oneForm_33 : decode cX11_oneForm 33 = .ok (.ifCond .eq 16, 3) := by decide +kernel
theorem dX11_oneForm_36 : decode cX11_oneForm 36 = .ok (.iload_n 1, 1) := by decide +kernel
theorem dX11_oneForm_37 : decode cX11_oneForm 37 = .ok (.bipush 8, 2) := by decide +kernel
theorem dX11_oneForm_39 : decode cX11_oneForm 39 = .ok (.if_icmp .eq 10, 3) := by decide +kernel
theorem dX11_oneForm_42 : decode cX11_oneForm 42 = .ok (.aload_n 0, 1) := by decide +kernel
theorem dX11_oneForm_43 : decode cX11_oneForm 43 = .ok (.invokevirtual 226, 3) := by decide +kernel
theorem dX11_oneForm_46 : decode cX11_oneForm 46 = .ok (.ifCond .ne 5, 3) := by decide +kernel
theorem dX11_oneForm_49 : decode cX11_oneForm 49 = .ok (.iconst 0, 1) := by decide +kernel
theorem dX11_oneForm_50 : decode cX11_oneForm 50 = .ok (.ireturn, 1) := by decide +kernel
theorem dX11_oneForm_51 : decode cX11_oneForm 51 = .ok (.iload_n 2, 1) := by decide +kernel
theorem dX11_oneForm_52 : decode cX11_oneForm 52 = .ok (.ifCond .eq 11, 3) := by decide +kernel
theorem dX11_oneForm_55 : decode cX11_oneForm 55 = .ok (.aload_n 0, 1) := by decide +kernel
theorem dX11_oneForm_56 : decode cX11_oneForm 56 = .ok (.iload_n 1, 1) := by decide +kernel
theorem dX11_oneForm_57 : decode cX11_oneForm 57 = .ok (.iconst 1, 1) := by decide +kernel
theorem dX11_oneForm_58 : decode cX11_oneForm 58 = .ok (.iadd, 1) := by decide +kernel
theorem dX11_oneForm_59 : decode cX11_oneForm 59 = .ok (.invokevirtual 229, 3) := by decide +kernel
theorem dX11_oneForm_62 : decode cX11_oneForm 62 = .ok (.ireturn, 1) := by decide +kernel
theorem dX11_oneForm_63 : decode cX11_oneForm 63 = .ok (.aload_n 0, 1) := by decide +kernel
theorem dX11_oneForm_64 : decode cX11_oneForm 64 = .ok (.iload_n 1, 1) := by decide +kernel
theorem dX11_oneForm_65 : decode cX11_oneForm 65 = .ok (.iconst 1, 1) := by decide +kernel
theorem dX11_oneForm_66 : decode cX11_oneForm 66 = .ok (.iadd, 1) := by decide +kernel
theorem dX11_oneForm_67 : decode cX11_oneForm 67 = .ok (.invokevirtual 218, 3) := by decide +kernel
theorem dX11_oneForm_70 : decode cX11_oneForm 70 = .ok (.ifCond .eq 23, 3) := by decide +kernel
theorem dX11_oneForm_73 : decode cX11_oneForm 73 = .ok (.aload_n 0, 1) := by decide +kernel
theorem dX11_oneForm_74 : decode cX11_oneForm 74 = .ok (.ldc 238, 2) := by decide +kernel
theorem dX11_oneForm_76 : decode cX11_oneForm 76 = .ok (.invokevirtual 147, 3) := by decide +kernel
theorem dX11_oneForm_79 : decode cX11_oneForm 79 = .ok (.ifCond .eq 14, 3) := by decide +kernel
theorem dX11_oneForm_82 : decode cX11_oneForm 82 = .ok (.aload_n 0, 1) := by decide +kernel
theorem dX11_oneForm_83 : decode cX11_oneForm 83 = .ok (.invokevirtual 226, 3) := by decide +kernel
theorem dX11_oneForm_86 : decode cX11_oneForm 86 = .ok (.ifCond .eq 7, 3) := by decide +kernel
theorem dX11_oneForm_89 : decode cX11_oneForm 89 = .ok (.iconst 1, 1) := by decide +kernel
theorem dX11_oneForm_90 : decode cX11_oneForm 90 = .ok (.goto 4, 3) := by decide +kernel
theorem dX11_oneForm_93 : decode cX11_oneForm 93 = .ok (.iconst 0, 1) := by decide +kernel
theorem dX11_oneForm_94 : decode cX11_oneForm 94 = .ok (.ireturn, 1) := by decide +kernel
theorem dX11_wrong_0 : decode cX11_wrong 0 = .ok (.aload_n 0, 1) := by decide +kernel
theorem dX11_wrong_1 : decode cX11_wrong 1 = .ok (.aload_n 0, 1) := by decide +kernel
theorem dX11_wrong_2 : decode cX11_wrong 2 = .ok (.getfield 20, 3) := by decide +kernel
theorem dX11_wrong_5 : decode cX11_wrong 5 = .ok (.iload_n 2, 1) := by decide +kernel
theorem dX11_wrong_6 : decode cX11_wrong 6 = .ok (.iaload, 1) := by decide +kernel
theorem dX11_wrong_7 : decode cX11_wrong 7 = .ok (.putfield 13, 3) := by decide +kernel
theorem dX11_wrong_10 : decode cX11_wrong 10 = .ok (.iload_n 1, 1) := by decide +kernel
theorem dX11_wrong_11 : decode cX11_wrong 11 = .ok (.ireturn, 1) := by decide +kernel
theorem dX11_find_0 : decode cX11_find 0 = .ok (.iconst (-1), 1) := by decide +kernel
theorem dX11_find_1 : decode cX11_find 1 = .ok (.istore 4, 2) := by decide +kernel
theorem dX11_find_3 : decode cX11_find 3 = .ok (.iconst 0, 1) := by decide +kernel
theorem dX11_find_4 : decode cX11_find 4 = .ok (.istore 5, 2) := by decide +kernel
theorem dX11_find_6 : decode cX11_find 6 = .ok (.iload 5, 2) := by decide +kernel
theorem dX11_find_8 : decode cX11_find 8 = .ok (.iload_n 1, 1) := by decide +kernel
theorem dX11_find_9 : decode cX11_find 9 = .ok (.if_icmp .ge 22, 3) := by decide +kernel
theorem dX11_find_12 : decode cX11_find 12 = .ok (.aload_n 0, 1) := by decide +kernel
theorem dX11_find_13 : decode cX11_find 13 = .ok (.iload 5, 2) := by decide +kernel
theorem dX11_find_15 : decode cX11_find 15 = .ok (.laload, 1) := by decide +kernel
theorem dX11_find_16 : decode cX11_find 16 = .ok (.lload_n 2, 1) := by decide +kernel
theorem dX11_find_17 : decode cX11_find 17 = .ok (.lcmp, 1) := by decide +kernel
theorem dX11_find_18 : decode cX11_find 18 = .ok (.ifCond .ne 7, 3) := by decide +kernel
theorem dX11_find_21 : decode cX11_find 21 = .ok (.iload 5, 2) := by decide +kernel
theorem dX11_find_23 : decode cX11_find 23 = .ok (.istore 4, 2) := by decide +kernel
theorem dX11_find_25 : decode cX11_find 25 = .ok (.iinc 5 1, 3) := by decide +kernel
theorem dX11_find_28 : decode cX11_find 28 = .ok (.goto (-22), 3) := by decide +kernel
theorem dX11_find_31 : decode cX11_find 31 = .ok (.iload 4, 2) := by decide +kernel
theorem dX11_find_33 : decode cX11_find 33 = .ok (.ireturn, 1) := by decide +kernel
theorem dX11_isTaken_0 : decode cX11_isTaken 0 = .ok (.aload_n 0, 1) := by decide +kernel
theorem dX11_isTaken_1 : decode cX11_isTaken 1 = .ok (.getfield 26, 3) := by decide +kernel
theorem dX11_isTaken_4 : decode cX11_isTaken 4 = .ok (.aload_n 0, 1) := by decide +kernel
theorem dX11_isTaken_5 : decode cX11_isTaken 5 = .ok (.getfield 240, 3) := by decide +kernel
theorem dX11_isTaken_8 : decode cX11_isTaken 8 = .ok (.lload_n 1, 1) := by decide +kernel
theorem dX11_isTaken_9 : decode cX11_isTaken 9 = .ok (.invokestatic 243, 3) := by decide +kernel
theorem dX11_isTaken_12 : decode cX11_isTaken 12 = .ok (.iconst (-1), 1) := by decide +kernel
theorem dX11_isTaken_13 : decode cX11_isTaken 13 = .ok (.if_icmp .ne 35, 3) := by decide +kernel
theorem dX11_isTaken_16 : decode cX11_isTaken 16 = .ok (.aload_n 0, 1) := by decide +kernel
theorem dX11_isTaken_17 : decode cX11_isTaken 17 = .ok (.getfield 39, 3) := by decide +kernel
theorem dX11_isTaken_20 : decode cX11_isTaken 20 = .ok (.aload_n 0, 1) := by decide +kernel
theorem dX11_isTaken_21 : decode cX11_isTaken 21 = .ok (.getfield 247, 3) := by decide +kernel
theorem dX11_isTaken_24 : decode cX11_isTaken 24 = .ok (.lload_n 1, 1) := by decide +kernel
theorem dX11_isTaken_25 : decode cX11_isTaken 25 = .ok (.invokestatic 243, 3) := by decide +kernel
theorem dX11_isTaken_28 : decode cX11_isTaken 28 = .ok (.iconst (-1), 1) := by decide +kernel
theorem dX11_isTaken_29 : decode cX11_isTaken 29 = .ok (.if_icmp .ne 19, 3) := by decide +kernel
theorem dX11_isTaken_32 : decode cX11_isTaken 32 = .ok (.aload_n 0, 1) := by decide +kernel
theorem dX11_isTaken_33 : decode cX11_isTaken 33 = .ok (.getfield 60, 3) := by decide +kernel
theorem dX11_isTaken_36 : decode cX11_isTaken 36 = .ok (.aload_n 0, 1) := by decide +kernel
theorem dX11_isTaken_37 : decode cX11_isTaken 37 = .ok (.getfield 250, 3) := by decide +kernel
theorem dX11_isTaken_40 : decode cX11_isTaken 40 = .ok (.lload_n 1, 1) := by decide +kernel
theorem dX11_isTaken_41 : decode cX11_isTaken 41 = .ok (.invokestatic 243, 3) := by decide +kernel
theorem dX11_isTaken_44 : decode cX11_isTaken 44 = .ok (.iconst (-1), 1) := by decide +kernel
theorem dX11_isTaken_45 : decode cX11_isTaken 45 = .ok (.if_icmp .eq 7, 3) := by decide +kernel
theorem dX11_isTaken_48 : decode cX11_isTaken 48 = .ok (.iconst 1, 1) := by decide +kernel
theorem dX11_isTaken_49 : decode cX11_isTaken 49 = .ok (.goto 4, 3) := by decide +kernel
theorem dX11_isTaken_52 : decode cX11_isTaken 52 = .ok (.iconst 0, 1) := by decide +kernel
theorem dX11_isTaken_53 : decode cX11_isTaken 53 = .ok (.ireturn, 1) := by decide +kernel
theorem dX11_meaning_0 : decode cX11_meaning 0 = .ok (.aload_n 0, 1) := by decide +kernel
theorem dX11_meaning_1 : decode cX11_meaning 1 = .ok (.getfield 17, 3) := by decide +kernel
theorem dX11_meaning_4 : decode cX11_meaning 4 = .ok (.aload_n 0, 1) := by decide +kernel
theorem dX11_meaning_5 : decode cX11_meaning 5 = .ok (.getfield 144, 3) := by decide +kernel
theorem dX11_meaning_8 : decode cX11_meaning 8 = .ok (.iaload, 1) := by decide +kernel
theorem dX11_meaning_9 : decode cX11_meaning 9 = .ok (.ifCond .eq 97, 3) := by decide +kernel
theorem dX11_meaning_12 : decode cX11_meaning 12 = .ok (.aload_n 0, 1) := by decide +kernel
theorem dX11_meaning_13 : decode cX11_meaning 13 = .ok (.getfield 144, 3) := by decide +kernel
theorem dX11_meaning_16 : decode cX11_meaning 16 = .ok (.istore_n 1, 1) := by decide +kernel
theorem dX11_meaning_17 : decode cX11_meaning 17 = .ok (.aload_n 0, 1) := by decide +kernel
theorem dX11_meaning_18 : decode cX11_meaning 18 = .ok (.dup, 1) := by decide +kernel
theorem dX11_meaning_19 : decode cX11_meaning 19 = .ok (.getfield 144, 3) := by decide +kernel
theorem dX11_meaning_22 : decode cX11_meaning 22 = .ok (.iconst 1, 1) := by decide +kernel
theorem dX11_meaning_23 : decode cX11_meaning 23 = .ok (.iadd, 1) := by decide +kernel
theorem dX11_meaning_24 : decode cX11_meaning 24 = .ok (.putfield 144, 3) := by decide +kernel
theorem dX11_meaning_27 : decode cX11_meaning 27 = .ok (.aload_n 0, 1) := by decide +kernel
theorem dX11_meaning_28 : decode cX11_meaning 28 = .ok (.iload_n 1, 1) := by decide +kernel
theorem dX11_meaning_29 : decode cX11_meaning 29 = .ok (.ldc 158, 2) := by decide +kernel
theorem dX11_meaning_31 : decode cX11_meaning 31 = .ok (.invokevirtual 136, 3) := by decide +kernel
theorem dX11_meaning_34 : decode cX11_meaning 34 = .ok (.ifCond .eq 11, 3) := by decide +kernel
theorem dX11_meaning_37 : decode cX11_meaning 37 = .ok (.aload_n 0, 1) := by decide +kernel
theorem dX11_meaning_38 : decode cX11_meaning 38 = .ok (.iload_n 1, 1) := by decide +kernel
theorem dX11_meaning_39 : decode cX11_meaning 39 = .ok (.invokevirtual 253, 3) := by decide +kernel
theorem dX11_meaning_42 : decode cX11_meaning 42 = .ok (.goto 44, 3) := by decide +kernel
theorem dX11_meaning_45 : decode cX11_meaning 45 = .ok (.aload_n 0, 1) := by decide +kernel
theorem dX11_meaning_46 : decode cX11_meaning 46 = .ok (.iload_n 1, 1) := by decide +kernel
theorem dX11_meaning_47 : decode cX11_meaning 47 = .ok (.ldc 176, 2) := by decide +kernel
theorem dX11_meaning_49 : decode cX11_meaning 49 = .ok (.invokevirtual 136, 3) := by decide +kernel
theorem dX11_meaning_52 : decode cX11_meaning 52 = .ok (.ifCond .eq 11, 3) := by decide +kernel
theorem dX11_meaning_55 : decode cX11_meaning 55 = .ok (.aload_n 0, 1) := by decide +kernel
theorem dX11_meaning_56 : decode cX11_meaning 56 = .ok (.iload_n 1, 1) := by decide +kernel
theorem dX11_meaning_57 : decode cX11_meaning 57 = .ok (.invokevirtual 255, 3) := by decide +kernel
theorem dX11_meaning_60 : decode cX11_meaning 60 = .ok (.goto 26, 3) := by decide +kernel
theorem dX11_meaning_63 : decode cX11_meaning 63 = .ok (.aload_n 0, 1) := by decide +kernel
theorem dX11_meaning_64 : decode cX11_meaning 64 = .ok (.iload_n 1, 1) := by decide +kernel
theorem dX11_meaning_65 : decode cX11_meaning 65 = .ok (.ldc 185, 2) := by decide +kernel
theorem dX11_meaning_67 : decode cX11_meaning 67 = .ok (.invokevirtual 136, 3) := by decide +kernel
theorem dX11_meaning_70 : decode cX11_meaning 70 = .ok (.ifCond .eq 11, 3) := by decide +kernel
theorem dX11_meaning_73 : decode cX11_meaning 73 = .ok (.aload_n 0, 1) := by decide +kernel
theorem dX11_meaning_74 : decode cX11_meaning 74 = .ok (.iload_n 1, 1) := by decide +kernel
theorem dX11_meaning_75 : decode cX11_meaning 75 = .ok (.invokevirtual 257, 3) := by decide +kernel
theorem dX11_meaning_78 : decode cX11_meaning 78 = .ok (.goto 8, 3) := by decide +kernel
theorem dX11_meaning_81 : decode cX11_meaning 81 = .ok (.aload_n 0, 1) := by decide +kernel
theorem dX11_meaning_82 : decode cX11_meaning 82 = .ok (.iload_n 1, 1) := by decide +kernel
theorem dX11_meaning_83 : decode cX11_meaning 83 = .ok (.invokevirtual 259, 3) := by decide +kernel
theorem dX11_meaning_86 : decode cX11_meaning 86 = .ok (.istore_n 2, 1) := by decide +kernel
theorem dX11_meaning_87 : decode cX11_meaning 87 = .ok (.iload_n 2, 1) := by decide +kernel
theorem dX11_meaning_88 : decode cX11_meaning 88 = .ok (.ifCond .eq 5, 3) := by decide +kernel
theorem dX11_meaning_91 : decode cX11_meaning 91 = .ok (.iload_n 2, 1) := by decide +kernel
theorem dX11_meaning_92 : decode cX11_meaning 92 = .ok (.ireturn, 1) := by decide +kernel
theorem dX11_meaning_93 : decode cX11_meaning 93 = .ok (.aload_n 0, 1) := by decide +kernel
theorem dX11_meaning_94 : decode cX11_meaning 94 = .ok (.dup, 1) := by decide +kernel
theorem dX11_meaning_95 : decode cX11_meaning 95 = .ok (.getfield 144, 3) := by decide +kernel
theorem dX11_meaning_98 : decode cX11_meaning 98 = .ok (.iconst 1, 1) := by decide +kernel
theorem dX11_meaning_99 : decode cX11_meaning 99 = .ok (.iadd, 1) := by decide +kernel
theorem dX11_meaning_100 : decode cX11_meaning 100 = .ok (.putfield 144, 3) := by decide +kernel
theorem dX11_meaning_103 : decode cX11_meaning 103 = .ok (.goto (-103), 3) := by decide +kernel
theorem dX11_meaning_106 : decode cX11_meaning 106 = .ok (.aload_n 0, 1) := by decide +kernel
theorem dX11_meaning_107 : decode cX11_meaning 107 = .ok (.getfield 247, 3) := by decide +kernel
theorem dX11_meaning_110 : decode cX11_meaning 110 = .ok (.ifCond .eq 10, 3) := by decide +kernel
theorem dX11_meaning_113 : decode cX11_meaning 113 = .ok (.aload_n 0, 1) := by decide +kernel
theorem dX11_meaning_114 : decode cX11_meaning 114 = .ok (.getfield 250, 3) := by decide +kernel
theorem dX11_meaning_117 : decode cX11_meaning 117 = .ok (.ifCond .ne 16, 3) := by decide +kernel
theorem dX11_meaning_120 : decode cX11_meaning 120 = .ok (.aload_n 0, 1) := by decide +kernel
theorem dX11_meaning_121 : decode cX11_meaning 121 = .ok (.bipush 6, 2) := by decide +kernel
theorem dX11_meaning_123 : decode cX11_meaning 123 = .ok (.aload_n 0, 1) := by decide +kernel
theorem dX11_meaning_124 : decode cX11_meaning 124 = .ok (.getfield 144, 3) := by decide +kernel
theorem dX11_meaning_127 : decode cX11_meaning 127 = .ok (.invokevirtual 261, 3) := by decide +kernel
theorem dX11_meaning_130 : decode cX11_meaning 130 = .ok (.goto 4, 3) := by decide +kernel
theorem dX11_meaning_133 : decode cX11_meaning 133 = .ok (.iconst 0, 1) := by decide +kernel
theorem dX11_meaning_134 : decode cX11_meaning 134 = .ok (.ireturn, 1) := by decide +kernel
theorem dX11_tagsHere_0 : decode cX11_tagsHere 0 = .ok (.iconst 0, 1) := by decide +kernel
theorem dX11_tagsHere_1 : decode cX11_tagsHere 1 = .ok (.istore_n 1, 1) := by decide +kernel
theorem dX11_tagsHere_2 : decode cX11_tagsHere 2 = .ok (.aload_n 0, 1) := by decide +kernel
theorem dX11_tagsHere_3 : decode cX11_tagsHere 3 = .ok (.ldc 195, 2) := by decide +kernel
theorem dX11_tagsHere_5 : decode cX11_tagsHere 5 = .ok (.invokevirtual 160, 3) := by decide +kernel
theorem dX11_tagsHere_8 : decode cX11_tagsHere 8 = .ok (.ifCond .ne 5, 3) := by decide +kernel
theorem dX11_tagsHere_11 : decode cX11_tagsHere 11 = .ok (.iload_n 1, 1) := by decide +kernel
theorem dX11_tagsHere_12 : decode cX11_tagsHere 12 = .ok (.ireturn, 1) := by decide +kernel
theorem dX11_tagsHere_13 : decode cX11_tagsHere 13 = .ok (.aload_n 0, 1) := by decide +kernel
theorem dX11_tagsHere_14 : decode cX11_tagsHere 14 = .ok (.aload_n 0, 1) := by decide +kernel
theorem dX11_tagsHere_15 : decode cX11_tagsHere 15 = .ok (.getfield 144, 3) := by decide +kernel
theorem dX11_tagsHere_18 : decode cX11_tagsHere 18 = .ok (.invokevirtual 265, 3) := by decide +kernel
theorem dX11_tagsHere_21 : decode cX11_tagsHere 21 = .ok (.lstore_n 2, 1) := by decide +kernel
theorem dX11_tagsHere_22 : decode cX11_tagsHere 22 = .ok (.aload_n 0, 1) := by decide +kernel
theorem dX11_tagsHere_23 : decode cX11_tagsHere 23 = .ok (.getfield 90, 3) := by decide +kernel
theorem dX11_tagsHere_26 : decode cX11_tagsHere 26 = .ok (.aload_n 0, 1) := by decide +kernel
theorem dX11_tagsHere_27 : decode cX11_tagsHere 27 = .ok (.getfield 269, 3) := by decide +kernel
theorem dX11_tagsHere_30 : decode cX11_tagsHere 30 = .ok (.lload_n 2, 1) := by decide +kernel
theorem dX11_tagsHere_31 : decode cX11_tagsHere 31 = .ok (.invokestatic 243, 3) := by decide +kernel
theorem dX11_tagsHere_34 : decode cX11_tagsHere 34 = .ok (.istore 4, 2) := by decide +kernel
theorem dX11_tagsHere_36 : decode cX11_tagsHere 36 = .ok (.iload 4, 2) := by decide +kernel
theorem dX11_tagsHere_38 : decode cX11_tagsHere 38 = .ok (.iconst (-1), 1) := by decide +kernel
theorem dX11_tagsHere_39 : decode cX11_tagsHere 39 = .ok (.if_icmp .ne 14, 3) := by decide +kernel
theorem dX11_tagsHere_42 : decode cX11_tagsHere 42 = .ok (.aload_n 0, 1) := by decide +kernel
theorem dX11_tagsHere_43 : decode cX11_tagsHere 43 = .ok (.getfield 269, 3) := by decide +kernel
theorem dX11_tagsHere_46 : decode cX11_tagsHere 46 = .ok (.bipush 16, 2) := by decide +kernel
theorem dX11_tagsHere_48 : decode cX11_tagsHere 48 = .ok (.if_icmp .ne 5, 3) := by decide +kernel
theorem dX11_tagsHere_51 : decode cX11_tagsHere 51 = .ok (.iconst (-1), 1) := by decide +kernel
theorem dX11_tagsHere_52 : decode cX11_tagsHere 52 = .ok (.ireturn, 1) := by decide +kernel
theorem dX11_tagsHere_53 : decode cX11_tagsHere 53 = .ok (.iload 4, 2) := by decide +kernel
theorem dX11_tagsHere_55 : decode cX11_tagsHere 55 = .ok (.iconst (-1), 1) := by decide +kernel
theorem dX11_tagsHere_56 : decode cX11_tagsHere 56 = .ok (.if_icmp .ne 29, 3) := by decide +kernel
theorem dX11_tagsHere_59 : decode cX11_tagsHere 59 = .ok (.aload_n 0, 1) := by decide +kernel
theorem dX11_tagsHere_60 : decode cX11_tagsHere 60 = .ok (.getfield 269, 3) := by decide +kernel
theorem dX11_tagsHere_63 : decode cX11_tagsHere 63 = .ok (.istore 4, 2) := by decide +kernel
theorem dX11_tagsHere_65 : decode cX11_tagsHere 65 = .ok (.aload_n 0, 1) := by decide +kernel
theorem dX11_tagsHere_66 : decode cX11_tagsHere 66 = .ok (.getfield 90, 3) := by decide +kernel
theorem dX11_tagsHere_69 : decode cX11_tagsHere 69 = .ok (.aload_n 0, 1) := by decide +kernel
theorem dX11_tagsHere_70 : decode cX11_tagsHere 70 = .ok (.getfield 269, 3) := by decide +kernel
theorem dX11_tagsHere_73 : decode cX11_tagsHere 73 = .ok (.lload_n 2, 1) := by decide +kernel
theorem dX11_tagsHere_74 : decode cX11_tagsHere 74 = .ok (.lastore, 1) := by decide +kernel
theorem dX11_tagsHere_75 : decode cX11_tagsHere 75 = .ok (.aload_n 0, 1) := by decide +kernel
theorem dX11_tagsHere_76 : decode cX11_tagsHere 76 = .ok (.dup, 1) := by decide +kernel
theorem dX11_tagsHere_77 : decode cX11_tagsHere 77 = .ok (.getfield 269, 3) := by decide +kernel
theorem dX11_tagsHere_80 : decode cX11_tagsHere 80 = .ok (.iconst 1, 1) := by decide +kernel
theorem dX11_tagsHere_81 : decode cX11_tagsHere 81 = .ok (.iadd, 1) := by decide +kernel
theorem dX11_tagsHere_82 : decode cX11_tagsHere 82 = .ok (.putfield 269, 3) := by decide +kernel
theorem dX11_tagsHere_85 : decode cX11_tagsHere 85 = .ok (.iload_n 1, 1) := by decide +kernel
theorem dX11_tagsHere_86 : decode cX11_tagsHere 86 = .ok (.iconst 1, 1) := by decide +kernel
theorem dX11_tagsHere_87 : decode cX11_tagsHere 87 = .ok (.iload 4, 2) := by decide +kernel
theorem dX11_tagsHere_89 : decode cX11_tagsHere 89 = .ok (.ishl, 1) := by decide +kernel
theorem dX11_tagsHere_90 : decode cX11_tagsHere 90 = .ok (.ior, 1) := by decide +kernel
theorem dX11_tagsHere_91 : decode cX11_tagsHere 91 = .ok (.istore_n 1, 1) := by decide +kernel
theorem dX11_tagsHere_92 : decode cX11_tagsHere 92 = .ok (.aload_n 0, 1) := by decide +kernel
theorem dX11_tagsHere_93 : decode cX11_tagsHere 93 = .ok (.dup, 1) := by decide +kernel
theorem dX11_tagsHere_94 : decode cX11_tagsHere 94 = .ok (.getfield 144, 3) := by decide +kernel
theorem dX11_tagsHere_97 : decode cX11_tagsHere 97 = .ok (.iconst 1, 1) := by decide +kernel
theorem dX11_tagsHere_98 : decode cX11_tagsHere 98 = .ok (.iadd, 1) := by decide +kernel
theorem dX11_tagsHere_99 : decode cX11_tagsHere 99 = .ok (.putfield 144, 3) := by decide +kernel
theorem dX11_tagsHere_102 : decode cX11_tagsHere 102 = .ok (.aload_n 0, 1) := by decide +kernel
theorem dX11_tagsHere_103 : decode cX11_tagsHere 103 = .ok (.ldc 196, 2) := by decide +kernel
theorem dX11_tagsHere_105 : decode cX11_tagsHere 105 = .ok (.invokevirtual 160, 3) := by decide +kernel
theorem dX11_tagsHere_108 : decode cX11_tagsHere 108 = .ok (.ifCond .ne (-95), 3) := by decide +kernel
theorem dX11_tagsHere_111 : decode cX11_tagsHere 111 = .ok (.iload_n 1, 1) := by decide +kernel
theorem dX11_tagsHere_112 : decode cX11_tagsHere 112 = .ok (.ireturn, 1) := by decide +kernel
theorem dX11_food_0 : decode cX11_food 0 = .ok (.aload_n 0, 1) := by decide +kernel
theorem dX11_food_1 : decode cX11_food 1 = .ok (.getfield 240, 3) := by decide +kernel
theorem dX11_food_4 : decode cX11_food 4 = .ok (.bipush 16, 2) := by decide +kernel
theorem dX11_food_6 : decode cX11_food 6 = .ok (.if_icmp .ne 10, 3) := by decide +kernel
theorem dX11_food_9 : decode cX11_food 9 = .ok (.aload_n 0, 1) := by decide +kernel
theorem dX11_food_10 : decode cX11_food 10 = .ok (.iconst 4, 1) := by decide +kernel
theorem dX11_food_11 : decode cX11_food 11 = .ok (.iload_n 1, 1) := by decide +kernel
theorem dX11_food_12 : decode cX11_food 12 = .ok (.invokevirtual 261, 3) := by decide +kernel
theorem dX11_food_15 : decode cX11_food 15 = .ok (.ireturn, 1) := by decide +kernel
theorem dX11_food_16 : decode cX11_food 16 = .ok (.aload_n 0, 1) := by decide +kernel
theorem dX11_food_17 : decode cX11_food 17 = .ok (.aload_n 0, 1) := by decide +kernel
theorem dX11_food_18 : decode cX11_food 18 = .ok (.aload_n 0, 1) := by decide +kernel
theorem dX11_food_19 : decode cX11_food 19 = .ok (.getfield 144, 3) := by decide +kernel
theorem dX11_food_22 : decode cX11_food 22 = .ok (.invokevirtual 265, 3) := by decide +kernel
theorem dX11_food_25 : decode cX11_food 25 = .ok (.invokevirtual 272, 3) := by decide +kernel
theorem dX11_food_28 : decode cX11_food 28 = .ok (.ifCond .eq 13, 3) := by decide +kernel
theorem dX11_food_31 : decode cX11_food 31 = .ok (.aload_n 0, 1) := by decide +kernel
theorem dX11_food_32 : decode cX11_food 32 = .ok (.iconst 3, 1) := by decide +kernel
theorem dX11_food_33 : decode cX11_food 33 = .ok (.aload_n 0, 1) := by decide +kernel
theorem dX11_food_34 : decode cX11_food 34 = .ok (.getfield 144, 3) := by decide +kernel
theorem dX11_food_37 : decode cX11_food 37 = .ok (.invokevirtual 261, 3) := by decide +kernel
theorem dX11_food_40 : decode cX11_food 40 = .ok (.ireturn, 1) := by decide +kernel
theorem dX11_food_41 : decode cX11_food 41 = .ok (.aload_n 0, 1) := by decide +kernel
theorem dX11_food_42 : decode cX11_food 42 = .ok (.aload_n 0, 1) := by decide +kernel
theorem dX11_food_43 : decode cX11_food 43 = .ok (.getfield 144, 3) := by decide +kernel
theorem dX11_food_46 : decode cX11_food 46 = .ok (.invokevirtual 265, 3) := by decide +kernel
theorem dX11_food_49 : decode cX11_food 49 = .ok (.lstore_n 2, 1) := by decide +kernel
theorem dX11_food_50 : decode cX11_food 50 = .ok (.aload_n 0, 1) := by decide +kernel
theorem dX11_food_51 : decode cX11_food 51 = .ok (.dup, 1) := by decide +kernel
theorem dX11_food_52 : decode cX11_food 52 = .ok (.getfield 144, 3) := by decide +kernel
theorem dX11_food_55 : decode cX11_food 55 = .ok (.iconst 1, 1) := by decide +kernel
theorem dX11_food_56 : decode cX11_food 56 = .ok (.iadd, 1) := by decide +kernel
theorem dX11_food_57 : decode cX11_food 57 = .ok (.putfield 144, 3) := by decide +kernel
theorem dX11_food_60 : decode cX11_food 60 = .ok (.aload_n 0, 1) := by decide +kernel
theorem dX11_food_61 : decode cX11_food 61 = .ok (.aload_n 0, 1) := by decide +kernel
theorem dX11_food_62 : decode cX11_food 62 = .ok (.getfield 144, 3) := by decide +kernel
theorem dX11_food_65 : decode cX11_food 65 = .ok (.invokevirtual 276, 3) := by decide +kernel
theorem dX11_food_68 : decode cX11_food 68 = .ok (.sipush 900, 3) := by decide +kernel
theorem dX11_food_71 : decode cX11_food 71 = .ok (.if_icmp .le 13, 3) := by decide +kernel
theorem dX11_food_74 : decode cX11_food 74 = .ok (.aload_n 0, 1) := by decide +kernel
theorem dX11_food_75 : decode cX11_food 75 = .ok (.iconst 5, 1) := by decide +kernel
theorem dX11_food_76 : decode cX11_food 76 = .ok (.aload_n 0, 1) := by decide +kernel
theorem dX11_food_77 : decode cX11_food 77 = .ok (.getfield 144, 3) := by decide +kernel
theorem dX11_food_80 : decode cX11_food 80 = .ok (.invokevirtual 261, 3) := by decide +kernel
theorem dX11_food_83 : decode cX11_food 83 = .ok (.ireturn, 1) := by decide +kernel
theorem dX11_food_84 : decode cX11_food 84 = .ok (.aload_n 0, 1) := by decide +kernel
theorem dX11_food_85 : decode cX11_food 85 = .ok (.aload_n 0, 1) := by decide +kernel
theorem dX11_food_86 : decode cX11_food 86 = .ok (.getfield 144, 3) := by decide +kernel
theorem dX11_food_89 : decode cX11_food 89 = .ok (.invokevirtual 276, 3) := by decide +kernel
theorem dX11_food_92 : decode cX11_food 92 = .ok (.istore 4, 2) := by decide +kernel
theorem dX11_food_94 : decode cX11_food 94 = .ok (.aload_n 0, 1) := by decide +kernel
theorem dX11_food_95 : decode cX11_food 95 = .ok (.dup, 1) := by decide +kernel
theorem dX11_food_96 : decode cX11_food 96 = .ok (.getfield 144, 3) := by decide +kernel
theorem dX11_food_99 : decode cX11_food 99 = .ok (.iconst 1, 1) := by decide +kernel
theorem dX11_food_100 : decode cX11_food 100 = .ok (.iadd, 1) := by decide +kernel
theorem dX11_food_101 : decode cX11_food 101 = .ok (.putfield 144, 3) := by decide +kernel
theorem dX11_food_104 : decode cX11_food 104 = .ok (.iconst 0, 1) := by decide +kernel
theorem dX11_food_105 : decode cX11_food 105 = .ok (.istore 5, 2) := by decide +kernel
theorem dX11_food_107 : decode cX11_food 107 = .ok (.aload_n 0, 1) := by decide +kernel
theorem dX11_food_108 : decode cX11_food 108 = .ok (.ldc 169, 2) := by decide +kernel
theorem dX11_food_110 : decode cX11_food 110 = .ok (.invokevirtual 160, 3) := by decide +kernel
theorem dX11_food_113 : decode cX11_food 113 = .ok (.ifCond .eq 47, 3) := by decide +kernel
theorem dX11_food_116 : decode cX11_food 116 = .ok (.aload_n 0, 1) := by decide +kernel
theorem dX11_food_117 : decode cX11_food 117 = .ok (.aload_n 0, 1) := by decide +kernel
theorem dX11_food_118 : decode cX11_food 118 = .ok (.getfield 144, 3) := by decide +kernel
theorem dX11_food_121 : decode cX11_food 121 = .ok (.invokevirtual 276, 3) := by decide +kernel
theorem dX11_food_124 : decode cX11_food 124 = .ok (.sipush 999, 3) := by decide +kernel
theorem dX11_food_127 : decode cX11_food 127 = .ok (.if_icmp .le 13, 3) := by decide +kernel
theorem dX11_food_130 : decode cX11_food 130 = .ok (.aload_n 0, 1) := by decide +kernel
theorem dX11_food_131 : decode cX11_food 131 = .ok (.iconst 5, 1) := by decide +kernel
theorem dX11_food_132 : decode cX11_food 132 = .ok (.aload_n 0, 1) := by decide +kernel
theorem dX11_food_133 : decode cX11_food 133 = .ok (.getfield 144, 3) := by decide +kernel
theorem dX11_food_136 : decode cX11_food 136 = .ok (.invokevirtual 261, 3) := by decide +kernel
theorem dX11_food_139 : decode cX11_food 139 = .ok (.ireturn, 1) := by decide +kernel
theorem dX11_food_140 : decode cX11_food 140 = .ok (.aload_n 0, 1) := by decide +kernel
theorem dX11_food_141 : decode cX11_food 141 = .ok (.aload_n 0, 1) := by decide +kernel
theorem dX11_food_142 : decode cX11_food 142 = .ok (.getfield 144, 3) := by decide +kernel
theorem dX11_food_145 : decode cX11_food 145 = .ok (.invokevirtual 276, 3) := by decide +kernel
theorem dX11_food_148 : decode cX11_food 148 = .ok (.istore 5, 2) := by decide +kernel
theorem dX11_food_150 : decode cX11_food 150 = .ok (.aload_n 0, 1) := by decide +kernel
theorem dX11_food_151 : decode cX11_food 151 = .ok (.dup, 1) := by decide +kernel
theorem dX11_food_152 : decode cX11_food 152 = .ok (.getfield 144, 3) := by decide +kernel
theorem dX11_food_155 : decode cX11_food 155 = .ok (.iconst 1, 1) := by decide +kernel
theorem dX11_food_156 : decode cX11_food 156 = .ok (.iadd, 1) := by decide +kernel
theorem dX11_food_157 : decode cX11_food 157 = .ok (.putfield 144, 3) := by decide +kernel
theorem dX11_food_160 : decode cX11_food 160 = .ok (.aload_n 0, 1) := by decide +kernel
theorem dX11_food_161 : decode cX11_food 161 = .ok (.invokevirtual 279, 3) := by decide +kernel
theorem dX11_food_164 : decode cX11_food 164 = .ok (.istore 6, 2) := by decide +kernel
theorem dX11_food_166 : decode cX11_food 166 = .ok (.iload 6, 2) := by decide +kernel
theorem dX11_food_168 : decode cX11_food 168 = .ok (.iconst (-1), 1) := by decide +kernel
theorem dX11_food_169 : decode cX11_food 169 = .ok (.if_icmp .ne 13, 3) := by decide +kernel
theorem dX11_food_172 : decode cX11_food 172 = .ok (.aload_n 0, 1) := by decide +kernel
theorem dX11_food_173 : decode cX11_food 173 = .ok (.iconst 4, 1) := by decide +kernel
theorem dX11_food_174 : decode cX11_food 174 = .ok (.aload_n 0, 1) := by decide +kernel
theorem dX11_food_175 : decode cX11_food 175 = .ok (.getfield 144, 3) := by decide +kernel
theorem dX11_food_178 : decode cX11_food 178 = .ok (.invokevirtual 261, 3) := by decide +kernel
theorem dX11_food_181 : decode cX11_food 181 = .ok (.ireturn, 1) := by decide +kernel
theorem dX11_food_182 : decode cX11_food 182 = .ok (.aload_n 0, 1) := by decide +kernel
theorem dX11_food_183 : decode cX11_food 183 = .ok (.getfield 26, 3) := by decide +kernel
theorem dX11_food_186 : decode cX11_food 186 = .ok (.aload_n 0, 1) := by decide +kernel
theorem dX11_food_187 : decode cX11_food 187 = .ok (.getfield 240, 3) := by decide +kernel
theorem dX11_food_190 : decode cX11_food 190 = .ok (.lload_n 2, 1) := by decide +kernel
theorem dX11_food_191 : decode cX11_food 191 = .ok (.lastore, 1) := by decide +kernel
theorem dX11_food_192 : decode cX11_food 192 = .ok (.aload_n 0, 1) := by decide +kernel
theorem dX11_food_193 : decode cX11_food 193 = .ok (.getfield 30, 3) := by decide +kernel
theorem dX11_food_196 : decode cX11_food 196 = .ok (.aload_n 0, 1) := by decide +kernel
theorem dX11_food_197 : decode cX11_food 197 = .ok (.getfield 240, 3) := by decide +kernel
theorem dX11_food_200 : decode cX11_food 200 = .ok (.iload 4, 2) := by decide +kernel
theorem dX11_food_202 : decode cX11_food 202 = .ok (.iastore, 1) := by decide +kernel
theorem dX11_food_203 : decode cX11_food 203 = .ok (.aload_n 0, 1) := by decide +kernel
theorem dX11_food_204 : decode cX11_food 204 = .ok (.getfield 33, 3) := by decide +kernel
theorem dX11_food_207 : decode cX11_food 207 = .ok (.aload_n 0, 1) := by decide +kernel
theorem dX11_food_208 : decode cX11_food 208 = .ok (.getfield 240, 3) := by decide +kernel
theorem dX11_food_211 : decode cX11_food 211 = .ok (.iload 5, 2) := by decide +kernel
theorem dX11_food_213 : decode cX11_food 213 = .ok (.iastore, 1) := by decide +kernel
theorem dX11_food_214 : decode cX11_food 214 = .ok (.aload_n 0, 1) := by decide +kernel
theorem dX11_food_215 : decode cX11_food 215 = .ok (.getfield 36, 3) := by decide +kernel
theorem dX11_food_218 : decode cX11_food 218 = .ok (.aload_n 0, 1) := by decide +kernel
theorem dX11_food_219 : decode cX11_food 219 = .ok (.getfield 240, 3) := by decide +kernel
theorem dX11_food_222 : decode cX11_food 222 = .ok (.iload 6, 2) := by decide +kernel
theorem dX11_food_224 : decode cX11_food 224 = .ok (.iastore, 1) := by decide +kernel
theorem dX11_food_225 : decode cX11_food 225 = .ok (.aload_n 0, 1) := by decide +kernel
theorem dX11_food_226 : decode cX11_food 226 = .ok (.dup, 1) := by decide +kernel
theorem dX11_food_227 : decode cX11_food 227 = .ok (.getfield 240, 3) := by decide +kernel
theorem dX11_food_230 : decode cX11_food 230 = .ok (.iconst 1, 1) := by decide +kernel
theorem dX11_food_231 : decode cX11_food 231 = .ok (.iadd, 1) := by decide +kernel
theorem dX11_food_232 : decode cX11_food 232 = .ok (.putfield 240, 3) := by decide +kernel
theorem dX11_food_235 : decode cX11_food 235 = .ok (.iconst 0, 1) := by decide +kernel
theorem dX11_food_236 : decode cX11_food 236 = .ok (.ireturn, 1) := by decide +kernel
theorem dX11_dish_0 : decode cX11_dish 0 = .ok (.aload_n 0, 1) := by decide +kernel
theorem dX11_dish_1 : decode cX11_dish 1 = .ok (.getfield 247, 3) := by decide +kernel
theorem dX11_dish_4 : decode cX11_dish 4 = .ok (.bipush 16, 2) := by decide +kernel
theorem dX11_dish_6 : decode cX11_dish 6 = .ok (.if_icmp .ne 10, 3) := by decide +kernel
theorem dX11_dish_9 : decode cX11_dish 9 = .ok (.aload_n 0, 1) := by decide +kernel
theorem dX11_dish_10 : decode cX11_dish 10 = .ok (.iconst 4, 1) := by decide +kernel
theorem dX11_dish_11 : decode cX11_dish 11 = .ok (.iload_n 1, 1) := by decide +kernel
theorem dX11_dish_12 : decode cX11_dish 12 = .ok (.invokevirtual 261, 3) := by decide +kernel
theorem dX11_dish_15 : decode cX11_dish 15 = .ok (.ireturn, 1) := by decide +kernel
theorem dX11_dish_16 : decode cX11_dish 16 = .ok (.aload_n 0, 1) := by decide +kernel
theorem dX11_dish_17 : decode cX11_dish 17 = .ok (.getfield 144, 3) := by decide +kernel
theorem dX11_dish_20 : decode cX11_dish 20 = .ok (.istore_n 2, 1) := by decide +kernel
theorem dX11_dish_21 : decode cX11_dish 21 = .ok (.aload_n 0, 1) := by decide +kernel
theorem dX11_dish_22 : decode cX11_dish 22 = .ok (.aload_n 0, 1) := by decide +kernel
theorem dX11_dish_23 : decode cX11_dish 23 = .ok (.iload_n 2, 1) := by decide +kernel
theorem dX11_dish_24 : decode cX11_dish 24 = .ok (.invokevirtual 265, 3) := by decide +kernel
theorem dX11_dish_27 : decode cX11_dish 27 = .ok (.invokevirtual 272, 3) := by decide +kernel
theorem dX11_dish_30 : decode cX11_dish 30 = .ok (.ifCond .eq 10, 3) := by decide +kernel
theorem dX11_dish_33 : decode cX11_dish 33 = .ok (.aload_n 0, 1) := by decide +kernel
theorem dX11_dish_34 : decode cX11_dish 34 = .ok (.iconst 3, 1) := by decide +kernel
theorem dX11_dish_35 : decode cX11_dish 35 = .ok (.iload_n 2, 1) := by decide +kernel
theorem dX11_dish_36 : decode cX11_dish 36 = .ok (.invokevirtual 261, 3) := by decide +kernel
theorem dX11_dish_39 : decode cX11_dish 39 = .ok (.ireturn, 1) := by decide +kernel
theorem dX11_dish_40 : decode cX11_dish 40 = .ok (.aload_n 0, 1) := by decide +kernel
theorem dX11_dish_41 : decode cX11_dish 41 = .ok (.dup, 1) := by decide +kernel
theorem dX11_dish_42 : decode cX11_dish 42 = .ok (.getfield 144, 3) := by decide +kernel
theorem dX11_dish_45 : decode cX11_dish 45 = .ok (.iconst 2, 1) := by decide +kernel
theorem dX11_dish_46 : decode cX11_dish 46 = .ok (.iadd, 1) := by decide +kernel
theorem dX11_dish_47 : decode cX11_dish 47 = .ok (.putfield 144, 3) := by decide +kernel
theorem dX11_dish_50 : decode cX11_dish 50 = .ok (.aload_n 0, 1) := by decide +kernel
theorem dX11_dish_51 : decode cX11_dish 51 = .ok (.aload_n 0, 1) := by decide +kernel
theorem dX11_dish_52 : decode cX11_dish 52 = .ok (.getfield 144, 3) := by decide +kernel
theorem dX11_dish_55 : decode cX11_dish 55 = .ok (.invokevirtual 276, 3) := by decide +kernel
theorem dX11_dish_58 : decode cX11_dish 58 = .ok (.iconst 1, 1) := by decide +kernel
theorem dX11_dish_59 : decode cX11_dish 59 = .ok (.bipush 20, 2) := by decide +kernel
theorem dX11_dish_61 : decode cX11_dish 61 = .ok (.invokestatic 106, 3) := by decide +kernel
theorem dX11_dish_64 : decode cX11_dish 64 = .ok (.ifCond .ne 13, 3) := by decide +kernel
theorem dX11_dish_67 : decode cX11_dish 67 = .ok (.aload_n 0, 1) := by decide +kernel
theorem dX11_dish_68 : decode cX11_dish 68 = .ok (.iconst 5, 1) := by decide +kernel
theorem dX11_dish_69 : decode cX11_dish 69 = .ok (.aload_n 0, 1) := by decide +kernel
theorem dX11_dish_70 : decode cX11_dish 70 = .ok (.getfield 144, 3) := by decide +kernel
theorem dX11_dish_73 : decode cX11_dish 73 = .ok (.invokevirtual 261, 3) := by decide +kernel
theorem dX11_dish_76 : decode cX11_dish 76 = .ok (.ireturn, 1) := by decide +kernel
theorem dX11_dish_77 : decode cX11_dish 77 = .ok (.aload_n 0, 1) := by decide +kernel
theorem dX11_dish_78 : decode cX11_dish 78 = .ok (.getfield 42, 3) := by decide +kernel
theorem dX11_dish_81 : decode cX11_dish 81 = .ok (.aload_n 0, 1) := by decide +kernel
theorem dX11_dish_82 : decode cX11_dish 82 = .ok (.getfield 247, 3) := by decide +kernel
theorem dX11_dish_85 : decode cX11_dish 85 = .ok (.aload_n 0, 1) := by decide +kernel
theorem dX11_dish_86 : decode cX11_dish 86 = .ok (.aload_n 0, 1) := by decide +kernel
theorem dX11_dish_87 : decode cX11_dish 87 = .ok (.getfield 144, 3) := by decide +kernel
theorem dX11_dish_90 : decode cX11_dish 90 = .ok (.invokevirtual 276, 3) := by decide +kernel
theorem dX11_dish_93 : decode cX11_dish 93 = .ok (.iastore, 1) := by decide +kernel
theorem dX11_dish_94 : decode cX11_dish 94 = .ok (.aload_n 0, 1) := by decide +kernel
theorem dX11_dish_95 : decode cX11_dish 95 = .ok (.dup, 1) := by decide +kernel
theorem dX11_dish_96 : decode cX11_dish 96 = .ok (.getfield 144, 3) := by decide +kernel
theorem dX11_dish_99 : decode cX11_dish 99 = .ok (.iconst 1, 1) := by decide +kernel
theorem dX11_dish_100 : decode cX11_dish 100 = .ok (.iadd, 1) := by decide +kernel
theorem dX11_dish_101 : decode cX11_dish 101 = .ok (.putfield 144, 3) := by decide +kernel
theorem dX11_dish_104 : decode cX11_dish 104 = .ok (.aload_n 0, 1) := by decide +kernel
theorem dX11_dish_105 : decode cX11_dish 105 = .ok (.getfield 45, 3) := by decide +kernel
theorem dX11_dish_108 : decode cX11_dish 108 = .ok (.aload_n 0, 1) := by decide +kernel
theorem dX11_dish_109 : decode cX11_dish 109 = .ok (.getfield 247, 3) := by decide +kernel
theorem dX11_dish_112 : decode cX11_dish 112 = .ok (.lconst 0, 1) := by decide +kernel
theorem dX11_dish_113 : decode cX11_dish 113 = .ok (.lastore, 1) := by decide +kernel
theorem dX11_dish_114 : decode cX11_dish 114 = .ok (.aload_n 0, 1) := by decide +kernel
theorem dX11_dish_115 : decode cX11_dish 115 = .ok (.getfield 48, 3) := by decide +kernel
theorem dX11_dish_118 : decode cX11_dish 118 = .ok (.aload_n 0, 1) := by decide +kernel
theorem dX11_dish_119 : decode cX11_dish 119 = .ok (.getfield 247, 3) := by decide +kernel
theorem dX11_dish_122 : decode cX11_dish 122 = .ok (.lconst 0, 1) := by decide +kernel
theorem dX11_dish_123 : decode cX11_dish 123 = .ok (.lastore, 1) := by decide +kernel
theorem dX11_dish_124 : decode cX11_dish 124 = .ok (.aload_n 0, 1) := by decide +kernel
theorem dX11_dish_125 : decode cX11_dish 125 = .ok (.getfield 51, 3) := by decide +kernel
theorem dX11_dish_128 : decode cX11_dish 128 = .ok (.aload_n 0, 1) := by decide +kernel
theorem dX11_dish_129 : decode cX11_dish 129 = .ok (.getfield 247, 3) := by decide +kernel
theorem dX11_dish_132 : decode cX11_dish 132 = .ok (.iconst 0, 1) := by decide +kernel
theorem dX11_dish_133 : decode cX11_dish 133 = .ok (.iastore, 1) := by decide +kernel
theorem dX11_dish_134 : decode cX11_dish 134 = .ok (.aload_n 0, 1) := by decide +kernel
theorem dX11_dish_135 : decode cX11_dish 135 = .ok (.getfield 54, 3) := by decide +kernel
theorem dX11_dish_138 : decode cX11_dish 138 = .ok (.aload_n 0, 1) := by decide +kernel
theorem dX11_dish_139 : decode cX11_dish 139 = .ok (.getfield 247, 3) := by decide +kernel
theorem dX11_dish_142 : decode cX11_dish 142 = .ok (.iconst 0, 1) := by decide +kernel
theorem dX11_dish_143 : decode cX11_dish 143 = .ok (.iastore, 1) := by decide +kernel
theorem dX11_dish_144 : decode cX11_dish 144 = .ok (.iconst 0, 1) := by decide +kernel
theorem dX11_dish_145 : decode cX11_dish 145 = .ok (.istore_n 3, 1) := by decide +kernel
theorem dX11_dish_146 : decode cX11_dish 146 = .ok (.iload_n 3, 1) := by decide +kernel
theorem dX11_dish_147 : decode cX11_dish 147 = .ok (.bipush 16, 2) := by decide +kernel
theorem dX11_dish_149 : decode cX11_dish 149 = .ok (.if_icmp .ge 24, 3) := by decide +kernel
theorem dX11_dish_152 : decode cX11_dish 152 = .ok (.aload_n 0, 1) := by decide +kernel
theorem dX11_dish_153 : decode cX11_dish 153 = .ok (.getfield 57, 3) := by decide +kernel
theorem dX11_dish_156 : decode cX11_dish 156 = .ok (.bipush 16, 2) := by decide +kernel
theorem dX11_dish_158 : decode cX11_dish 158 = .ok (.aload_n 0, 1) := by decide +kernel
theorem dX11_dish_159 : decode cX11_dish 159 = .ok (.getfield 247, 3) := by decide +kernel
theorem dX11_dish_162 : decode cX11_dish 162 = .ok (.imul, 1) := by decide +kernel
theorem dX11_dish_163 : decode cX11_dish 163 = .ok (.iload_n 3, 1) := by decide +kernel
theorem dX11_dish_164 : decode cX11_dish 164 = .ok (.iadd, 1) := by decide +kernel
theorem dX11_dish_165 : decode cX11_dish 165 = .ok (.lconst 0, 1) := by decide +kernel
theorem dX11_dish_166 : decode cX11_dish 166 = .ok (.lastore, 1) := by decide +kernel
theorem dX11_dish_167 : decode cX11_dish 167 = .ok (.iinc 3 1, 3) := by decide +kernel
theorem dX11_dish_170 : decode cX11_dish 170 = .ok (.goto (-24), 3) := by decide +kernel
theorem dX11_dish_173 : decode cX11_dish 173 = .ok (.aload_n 0, 1) := by decide +kernel
theorem dX11_dish_174 : decode cX11_dish 174 = .ok (.dup, 1) := by decide +kernel
theorem dX11_dish_175 : decode cX11_dish 175 = .ok (.getfield 144, 3) := by decide +kernel
theorem dX11_dish_178 : decode cX11_dish 178 = .ok (.iconst 1, 1) := by decide +kernel
theorem dX11_dish_179 : decode cX11_dish 179 = .ok (.iadd, 1) := by decide +kernel
theorem dX11_dish_180 : decode cX11_dish 180 = .ok (.putfield 144, 3) := by decide +kernel
theorem dX11_dish_183 : decode cX11_dish 183 = .ok (.aload_n 0, 1) := by decide +kernel
theorem dX11_dish_184 : decode cX11_dish 184 = .ok (.invokevirtual 282, 3) := by decide +kernel
theorem dX11_dish_187 : decode cX11_dish 187 = .ok (.istore_n 3, 1) := by decide +kernel
theorem dX11_dish_188 : decode cX11_dish 188 = .ok (.iload_n 3, 1) := by decide +kernel
theorem dX11_dish_189 : decode cX11_dish 189 = .ok (.ifCond .eq 5, 3) := by decide +kernel
theorem dX11_dish_192 : decode cX11_dish 192 = .ok (.iload_n 3, 1) := by decide +kernel
theorem dX11_dish_193 : decode cX11_dish 193 = .ok (.ireturn, 1) := by decide +kernel
theorem dX11_dish_194 : decode cX11_dish 194 = .ok (.aload_n 0, 1) := by decide +kernel
theorem dX11_dish_195 : decode cX11_dish 195 = .ok (.ldc 196, 2) := by decide +kernel
theorem dX11_dish_197 : decode cX11_dish 197 = .ok (.invokevirtual 147, 3) := by decide +kernel
theorem dX11_dish_200 : decode cX11_dish 200 = .ok (.ifCond .ne (-27), 3) := by decide +kernel
theorem dX11_dish_203 : decode cX11_dish 203 = .ok (.aload_n 0, 1) := by decide +kernel
theorem dX11_dish_204 : decode cX11_dish 204 = .ok (.invokevirtual 279, 3) := by decide +kernel
theorem dX11_dish_207 : decode cX11_dish 207 = .ok (.istore_n 3, 1) := by decide +kernel
theorem dX11_dish_208 : decode cX11_dish 208 = .ok (.iload_n 3, 1) := by decide +kernel
theorem dX11_dish_209 : decode cX11_dish 209 = .ok (.iconst (-1), 1) := by decide +kernel
theorem dX11_dish_210 : decode cX11_dish 210 = .ok (.if_icmp .ne 13, 3) := by decide +kernel
theorem dX11_dish_213 : decode cX11_dish 213 = .ok (.aload_n 0, 1) := by decide +kernel
theorem dX11_dish_214 : decode cX11_dish 214 = .ok (.iconst 4, 1) := by decide +kernel
theorem dX11_dish_215 : decode cX11_dish 215 = .ok (.aload_n 0, 1) := by decide +kernel
theorem dX11_dish_216 : decode cX11_dish 216 = .ok (.getfield 144, 3) := by decide +kernel
theorem dX11_dish_219 : decode cX11_dish 219 = .ok (.invokevirtual 261, 3) := by decide +kernel
theorem dX11_dish_222 : decode cX11_dish 222 = .ok (.ireturn, 1) := by decide +kernel
theorem dX11_dish_223 : decode cX11_dish 223 = .ok (.aload_n 0, 1) := by decide +kernel
theorem dX11_dish_224 : decode cX11_dish 224 = .ok (.getfield 51, 3) := by decide +kernel
theorem dX11_dish_227 : decode cX11_dish 227 = .ok (.aload_n 0, 1) := by decide +kernel
theorem dX11_dish_228 : decode cX11_dish 228 = .ok (.getfield 247, 3) := by decide +kernel
theorem dX11_dish_231 : decode cX11_dish 231 = .ok (.dup2, 1) := by decide +kernel
theorem dX11_dish_232 : decode cX11_dish 232 = .ok (.iaload, 1) := by decide +kernel
theorem dX11_dish_233 : decode cX11_dish 233 = .ok (.iload_n 3, 1) := by decide +kernel
theorem dX11_dish_234 : decode cX11_dish 234 = .ok (.ior, 1) := by decide +kernel
theorem dX11_dish_235 : decode cX11_dish 235 = .ok (.iastore, 1) := by decide +kernel
theorem dX11_dish_236 : decode cX11_dish 236 = .ok (.lconst 0, 1) := by decide +kernel
theorem dX11_dish_237 : decode cX11_dish 237 = .ok (.lstore 4, 2) := by decide +kernel
theorem dX11_dish_239 : decode cX11_dish 239 = .ok (.iconst 0, 1) := by decide +kernel
theorem dX11_dish_240 : decode cX11_dish 240 = .ok (.istore 6, 2) := by decide +kernel
theorem dX11_dish_242 : decode cX11_dish 242 = .ok (.iload 6, 2) := by decide +kernel
theorem dX11_dish_244 : decode cX11_dish 244 = .ok (.bipush 16, 2) := by decide +kernel
theorem dX11_dish_246 : decode cX11_dish 246 = .ok (.if_icmp .ge 29, 3) := by decide +kernel
theorem dX11_dish_249 : decode cX11_dish 249 = .ok (.lload 4, 2) := by decide +kernel
theorem dX11_dish_251 : decode cX11_dish 251 = .ok (.aload_n 0, 1) := by decide +kernel
theorem dX11_dish_252 : decode cX11_dish 252 = .ok (.getfield 57, 3) := by decide +kernel
theorem dX11_dish_255 : decode cX11_dish 255 = .ok (.bipush 16, 2) := by decide +kernel
theorem dX11_dish_257 : decode cX11_dish 257 = .ok (.aload_n 0, 1) := by decide +kernel
theorem dX11_dish_258 : decode cX11_dish 258 = .ok (.getfield 247, 3) := by decide +kernel
theorem dX11_dish_261 : decode cX11_dish 261 = .ok (.imul, 1) := by decide +kernel
theorem dX11_dish_262 : decode cX11_dish 262 = .ok (.iload 6, 2) := by decide +kernel
theorem dX11_dish_264 : decode cX11_dish 264 = .ok (.iadd, 1) := by decide +kernel
theorem dX11_dish_265 : decode cX11_dish 265 = .ok (.laload, 1) := by decide +kernel
theorem dX11_dish_266 : decode cX11_dish 266 = .ok (.ladd, 1) := by decide +kernel
theorem dX11_dish_267 : decode cX11_dish 267 = .ok (.lstore 4, 2) := by decide +kernel
theorem dX11_dish_269 : decode cX11_dish 269 = .ok (.iinc 6 1, 3) := by decide +kernel
theorem dX11_dish_272 : decode cX11_dish 272 = .ok (.goto (-30), 3) := by decide +kernel
theorem dX11_dish_275 : decode cX11_dish 275 = .ok (.lload 4, 2) := by decide +kernel
theorem dX11_dish_277 : decode cX11_dish 277 = .ok (.ldc2_w 285, 3) := by decide +kernel
theorem dX11_dish_280 : decode cX11_dish 280 = .ok (.lcmp, 1) := by decide +kernel
theorem dX11_dish_281 : decode cX11_dish 281 = .ok (.ifCond .gt 35, 3) := by decide +kernel
theorem dX11_dish_284 : decode cX11_dish 284 = .ok (.aload_n 0, 1) := by decide +kernel
theorem dX11_dish_285 : decode cX11_dish 285 = .ok (.getfield 45, 3) := by decide +kernel
theorem dX11_dish_288 : decode cX11_dish 288 = .ok (.aload_n 0, 1) := by decide +kernel
theorem dX11_dish_289 : decode cX11_dish 289 = .ok (.getfield 247, 3) := by decide +kernel
theorem dX11_dish_292 : decode cX11_dish 292 = .ok (.laload, 1) := by decide +kernel
theorem dX11_dish_293 : decode cX11_dish 293 = .ok (.ldc2_w 287, 3) := by decide +kernel
theorem dX11_dish_296 : decode cX11_dish 296 = .ok (.lcmp, 1) := by decide +kernel
theorem dX11_dish_297 : decode cX11_dish 297 = .ok (.ifCond .gt 19, 3) := by decide +kernel
theorem dX11_dish_300 : decode cX11_dish 300 = .ok (.aload_n 0, 1) := by decide +kernel
theorem dX11_dish_301 : decode cX11_dish 301 = .ok (.getfield 48, 3) := by decide +kernel
theorem dX11_dish_304 : decode cX11_dish 304 = .ok (.aload_n 0, 1) := by decide +kernel
theorem dX11_dish_305 : decode cX11_dish 305 = .ok (.getfield 247, 3) := by decide +kernel
theorem dX11_dish_308 : decode cX11_dish 308 = .ok (.laload, 1) := by decide +kernel
theorem dX11_dish_309 : decode cX11_dish 309 = .ok (.ldc2_w 287, 3) := by decide +kernel
theorem dX11_dish_312 : decode cX11_dish 312 = .ok (.lcmp, 1) := by decide +kernel
theorem dX11_dish_313 : decode cX11_dish 313 = .ok (.ifCond .le 10, 3) := by decide +kernel
theorem dX11_dish_316 : decode cX11_dish 316 = .ok (.aload_n 0, 1) := by decide +kernel
theorem dX11_dish_317 : decode cX11_dish 317 = .ok (.iconst 5, 1) := by decide +kernel
theorem dX11_dish_318 : decode cX11_dish 318 = .ok (.iload_n 2, 1) := by decide +kernel
theorem dX11_dish_319 : decode cX11_dish 319 = .ok (.invokevirtual 261, 3) := by decide +kernel
theorem dX11_dish_322 : decode cX11_dish 322 = .ok (.ireturn, 1) := by decide +kernel
theorem dX11_dish_323 : decode cX11_dish 323 = .ok (.aload_n 0, 1) := by decide +kernel
theorem dX11_dish_324 : decode cX11_dish 324 = .ok (.getfield 39, 3) := by decide +kernel
theorem dX11_dish_327 : decode cX11_dish 327 = .ok (.aload_n 0, 1) := by decide +kernel
theorem dX11_dish_328 : decode cX11_dish 328 = .ok (.getfield 247, 3) := by decide +kernel
theorem dX11_dish_331 : decode cX11_dish 331 = .ok (.aload_n 0, 1) := by decide +kernel
theorem dX11_dish_332 : decode cX11_dish 332 = .ok (.iload_n 2, 1) := by decide +kernel
theorem dX11_dish_333 : decode cX11_dish 333 = .ok (.invokevirtual 265, 3) := by decide +kernel
theorem dX11_dish_336 : decode cX11_dish 336 = .ok (.lastore, 1) := by decide +kernel
theorem dX11_dish_337 : decode cX11_dish 337 = .ok (.aload_n 0, 1) := by decide +kernel
theorem dX11_dish_338 : decode cX11_dish 338 = .ok (.dup, 1) := by decide +kernel
theorem dX11_dish_339 : decode cX11_dish 339 = .ok (.getfield 247, 3) := by decide +kernel
theorem dX11_dish_342 : decode cX11_dish 342 = .ok (.iconst 1, 1) := by decide +kernel
theorem dX11_dish_343 : decode cX11_dish 343 = .ok (.iadd, 1) := by decide +kernel
theorem dX11_dish_344 : decode cX11_dish 344 = .ok (.putfield 247, 3) := by decide +kernel
theorem dX11_dish_347 : decode cX11_dish 347 = .ok (.iconst 0, 1) := by decide +kernel
theorem dX11_dish_348 : decode cX11_dish 348 = .ok (.ireturn, 1) := by decide +kernel
theorem dX11_part_0 : decode cX11_part 0 = .ok (.aload_n 0, 1) := by decide +kernel
theorem dX11_part_1 : decode cX11_part 1 = .ok (.getfield 247, 3) := by decide +kernel
theorem dX11_part_4 : decode cX11_part 4 = .ok (.istore_n 1, 1) := by decide +kernel
theorem dX11_part_5 : decode cX11_part 5 = .ok (.aload_n 0, 1) := by decide +kernel
theorem dX11_part_6 : decode cX11_part 6 = .ok (.getfield 54, 3) := by decide +kernel
theorem dX11_part_9 : decode cX11_part 9 = .ok (.iload_n 1, 1) := by decide +kernel
theorem dX11_part_10 : decode cX11_part 10 = .ok (.iaload, 1) := by decide +kernel
theorem dX11_part_11 : decode cX11_part 11 = .ok (.bipush 8, 2) := by decide +kernel
theorem dX11_part_13 : decode cX11_part 13 = .ok (.if_icmp .ne 13, 3) := by decide +kernel
theorem dX11_part_16 : decode cX11_part 16 = .ok (.aload_n 0, 1) := by decide +kernel
theorem dX11_part_17 : decode cX11_part 17 = .ok (.iconst 4, 1) := by decide +kernel
theorem dX11_part_18 : decode cX11_part 18 = .ok (.aload_n 0, 1) := by decide +kernel
theorem dX11_part_19 : decode cX11_part 19 = .ok (.getfield 144, 3) := by decide +kernel
theorem dX11_part_22 : decode cX11_part 22 = .ok (.invokevirtual 261, 3) := by decide +kernel
theorem dX11_part_25 : decode cX11_part 25 = .ok (.ireturn, 1) := by decide +kernel
theorem dX11_part_26 : decode cX11_part 26 = .ok (.aload_n 0, 1) := by decide +kernel
theorem dX11_part_27 : decode cX11_part 27 = .ok (.aload_n 0, 1) := by decide +kernel
theorem dX11_part_28 : decode cX11_part 28 = .ok (.getfield 144, 3) := by decide +kernel
theorem dX11_part_31 : decode cX11_part 31 = .ok (.invokevirtual 276, 3) := by decide +kernel
theorem dX11_part_34 : decode cX11_part 34 = .ok (.istore_n 2, 1) := by decide +kernel
theorem dX11_part_35 : decode cX11_part 35 = .ok (.iload_n 2, 1) := by decide +kernel
theorem dX11_part_36 : decode cX11_part 36 = .ok (.iconst 1, 1) := by decide +kernel
theorem dX11_part_37 : decode cX11_part 37 = .ok (.sipush 2000, 3) := by decide +kernel
theorem dX11_part_40 : decode cX11_part 40 = .ok (.invokestatic 106, 3) := by decide +kernel
theorem dX11_part_43 : decode cX11_part 43 = .ok (.ifCond .ne 13, 3) := by decide +kernel
theorem dX11_part_46 : decode cX11_part 46 = .ok (.aload_n 0, 1) := by decide +kernel
theorem dX11_part_47 : decode cX11_part 47 = .ok (.iconst 5, 1) := by decide +kernel
theorem dX11_part_48 : decode cX11_part 48 = .ok (.aload_n 0, 1) := by decide +kernel
theorem dX11_part_49 : decode cX11_part 49 = .ok (.getfield 144, 3) := by decide +kernel
theorem dX11_part_52 : decode cX11_part 52 = .ok (.invokevirtual 261, 3) := by decide +kernel
theorem dX11_part_55 : decode cX11_part 55 = .ok (.ireturn, 1) := by decide +kernel
theorem dX11_part_56 : decode cX11_part 56 = .ok (.aload_n 0, 1) := by decide +kernel
theorem dX11_part_57 : decode cX11_part 57 = .ok (.dup, 1) := by decide +kernel
theorem dX11_part_58 : decode cX11_part 58 = .ok (.getfield 144, 3) := by decide +kernel
theorem dX11_part_61 : decode cX11_part 61 = .ok (.iconst 1, 1) := by decide +kernel
theorem dX11_part_62 : decode cX11_part 62 = .ok (.iadd, 1) := by decide +kernel
theorem dX11_part_63 : decode cX11_part 63 = .ok (.putfield 144, 3) := by decide +kernel
theorem dX11_part_66 : decode cX11_part 66 = .ok (.aload_n 0, 1) := by decide +kernel
theorem dX11_part_67 : decode cX11_part 67 = .ok (.ldc 198, 2) := by decide +kernel
theorem dX11_part_69 : decode cX11_part 69 = .ok (.invokevirtual 160, 3) := by decide +kernel
theorem dX11_part_72 : decode cX11_part 72 = .ok (.istore_n 3, 1) := by decide +kernel
theorem dX11_part_73 : decode cX11_part 73 = .ok (.iload_n 3, 1) := by decide +kernel
theorem dX11_part_74 : decode cX11_part 74 = .ok (.ifCond .eq 25, 3) := by decide +kernel
theorem dX11_part_77 : decode cX11_part 77 = .ok (.aload_n 0, 1) := by decide +kernel
theorem dX11_part_78 : decode cX11_part 78 = .ok (.getfield 39, 3) := by decide +kernel
theorem dX11_part_81 : decode cX11_part 81 = .ok (.aload_n 0, 1) := by decide +kernel
theorem dX11_part_82 : decode cX11_part 82 = .ok (.getfield 247, 3) := by decide +kernel
theorem dX11_part_85 : decode cX11_part 85 = .ok (.aload_n 0, 1) := by decide +kernel
theorem dX11_part_86 : decode cX11_part 86 = .ok (.aload_n 0, 1) := by decide +kernel
theorem dX11_part_87 : decode cX11_part 87 = .ok (.getfield 144, 3) := by decide +kernel
theorem dX11_part_90 : decode cX11_part 90 = .ok (.invokevirtual 265, 3) := by decide +kernel
theorem dX11_part_93 : decode cX11_part 93 = .ok (.invokestatic 243, 3) := by decide +kernel
theorem dX11_part_96 : decode cX11_part 96 = .ok (.goto 22, 3) := by decide +kernel
theorem dX11_part_99 : decode cX11_part 99 = .ok (.aload_n 0, 1) := by decide +kernel
theorem dX11_part_100 : decode cX11_part 100 = .ok (.getfield 26, 3) := by decide +kernel
theorem dX11_part_103 : decode cX11_part 103 = .ok (.aload_n 0, 1) := by decide +kernel
theorem dX11_part_104 : decode cX11_part 104 = .ok (.getfield 240, 3) := by decide +kernel
theorem dX11_part_107 : decode cX11_part 107 = .ok (.aload_n 0, 1) := by decide +kernel
theorem dX11_part_108 : decode cX11_part 108 = .ok (.aload_n 0, 1) := by decide +kernel
theorem dX11_part_109 : decode cX11_part 109 = .ok (.getfield 144, 3) := by decide +kernel
theorem dX11_part_112 : decode cX11_part 112 = .ok (.invokevirtual 265, 3) := by decide +kernel
theorem dX11_part_115 : decode cX11_part 115 = .ok (.invokestatic 243, 3) := by decide +kernel
theorem dX11_part_118 : decode cX11_part 118 = .ok (.istore 4, 2) := by decide +kernel
theorem dX11_part_120 : decode cX11_part 120 = .ok (.iload 4, 2) := by decide +kernel
theorem dX11_part_122 : decode cX11_part 122 = .ok (.iconst (-1), 1) := by decide +kernel
theorem dX11_part_123 : decode cX11_part 123 = .ok (.if_icmp .ne 13, 3) := by decide +kernel
theorem dX11_part_126 : decode cX11_part 126 = .ok (.aload_n 0, 1) := by decide +kernel
theorem dX11_part_127 : decode cX11_part 127 = .ok (.iconst 2, 1) := by decide +kernel
theorem dX11_part_128 : decode cX11_part 128 = .ok (.aload_n 0, 1) := by decide +kernel
theorem dX11_part_129 : decode cX11_part 129 = .ok (.getfield 144, 3) := by decide +kernel
theorem dX11_part_132 : decode cX11_part 132 = .ok (.invokevirtual 261, 3) := by decide +kernel
theorem dX11_part_135 : decode cX11_part 135 = .ok (.ireturn, 1) := by decide +kernel
theorem dX11_part_136 : decode cX11_part 136 = .ok (.aload_n 0, 1) := by decide +kernel
theorem dX11_part_137 : decode cX11_part 137 = .ok (.dup, 1) := by decide +kernel
theorem dX11_part_138 : decode cX11_part 138 = .ok (.getfield 144, 3) := by decide +kernel
theorem dX11_part_141 : decode cX11_part 141 = .ok (.iconst 1, 1) := by decide +kernel
theorem dX11_part_142 : decode cX11_part 142 = .ok (.iadd, 1) := by decide +kernel
theorem dX11_part_143 : decode cX11_part 143 = .ok (.putfield 144, 3) := by decide +kernel
theorem dX11_part_146 : decode cX11_part 146 = .ok (.aload_n 0, 1) := by decide +kernel
theorem dX11_part_147 : decode cX11_part 147 = .ok (.getfield 54, 3) := by decide +kernel
theorem dX11_part_150 : decode cX11_part 150 = .ok (.iload_n 1, 1) := by decide +kernel
theorem dX11_part_151 : decode cX11_part 151 = .ok (.dup2, 1) := by decide +kernel
theorem dX11_part_152 : decode cX11_part 152 = .ok (.iaload, 1) := by decide +kernel
theorem dX11_part_153 : decode cX11_part 153 = .ok (.iconst 1, 1) := by decide +kernel
theorem dX11_part_154 : decode cX11_part 154 = .ok (.iadd, 1) := by decide +kernel
theorem dX11_part_155 : decode cX11_part 155 = .ok (.iastore, 1) := by decide +kernel
theorem dX11_part_156 : decode cX11_part 156 = .ok (.iload_n 3, 1) := by decide +kernel
theorem dX11_part_157 : decode cX11_part 157 = .ok (.ifCond .eq 134, 3) := by decide +kernel
theorem dX11_part_160 : decode cX11_part 160 = .ok (.aload_n 0, 1) := by decide +kernel
theorem dX11_part_161 : decode cX11_part 161 = .ok (.getfield 45, 3) := by decide +kernel
theorem dX11_part_164 : decode cX11_part 164 = .ok (.iload_n 1, 1) := by decide +kernel
theorem dX11_part_165 : decode cX11_part 165 = .ok (.dup2, 1) := by decide +kernel
theorem dX11_part_166 : decode cX11_part 166 = .ok (.laload, 1) := by decide +kernel
theorem dX11_part_167 : decode cX11_part 167 = .ok (.iload_n 2, 1) := by decide +kernel
theorem dX11_part_168 : decode cX11_part 168 = .ok (.i2l, 1) := by decide +kernel
theorem dX11_part_169 : decode cX11_part 169 = .ok (.aload_n 0, 1) := by decide +kernel
theorem dX11_part_170 : decode cX11_part 170 = .ok (.getfield 45, 3) := by decide +kernel
theorem dX11_part_173 : decode cX11_part 173 = .ok (.iload 4, 2) := by decide +kernel
theorem dX11_part_175 : decode cX11_part 175 = .ok (.laload, 1) := by decide +kernel
theorem dX11_part_176 : decode cX11_part 176 = .ok (.aload_n 0, 1) := by decide +kernel
theorem dX11_part_177 : decode cX11_part 177 = .ok (.getfield 42, 3) := by decide +kernel
theorem dX11_part_180 : decode cX11_part 180 = .ok (.iload 4, 2) := by decide +kernel
theorem dX11_part_182 : decode cX11_part 182 = .ok (.iaload, 1) := by decide +kernel
theorem dX11_part_183 : decode cX11_part 183 = .ok (.i2l, 1) := by decide +kernel
theorem dX11_part_184 : decode cX11_part 184 = .ok (.ldiv, 1) := by decide +kernel
theorem dX11_part_185 : decode cX11_part 185 = .ok (.lmul, 1) := by decide +kernel
theorem dX11_part_186 : decode cX11_part 186 = .ok (.ladd, 1) := by decide +kernel
theorem dX11_part_187 : decode cX11_part 187 = .ok (.lastore, 1) := by decide +kernel
theorem dX11_part_188 : decode cX11_part 188 = .ok (.aload_n 0, 1) := by decide +kernel
theorem dX11_part_189 : decode cX11_part 189 = .ok (.getfield 48, 3) := by decide +kernel
theorem dX11_part_192 : decode cX11_part 192 = .ok (.iload_n 1, 1) := by decide +kernel
theorem dX11_part_193 : decode cX11_part 193 = .ok (.dup2, 1) := by decide +kernel
theorem dX11_part_194 : decode cX11_part 194 = .ok (.laload, 1) := by decide +kernel
theorem dX11_part_195 : decode cX11_part 195 = .ok (.iload_n 2, 1) := by decide +kernel
theorem dX11_part_196 : decode cX11_part 196 = .ok (.i2l, 1) := by decide +kernel
theorem dX11_part_197 : decode cX11_part 197 = .ok (.aload_n 0, 1) := by decide +kernel
theorem dX11_part_198 : decode cX11_part 198 = .ok (.getfield 48, 3) := by decide +kernel
theorem dX11_part_201 : decode cX11_part 201 = .ok (.iload 4, 2) := by decide +kernel
theorem dX11_part_203 : decode cX11_part 203 = .ok (.laload, 1) := by decide +kernel
theorem dX11_part_204 : decode cX11_part 204 = .ok (.aload_n 0, 1) := by decide +kernel
theorem dX11_part_205 : decode cX11_part 205 = .ok (.getfield 42, 3) := by decide +kernel
theorem dX11_part_208 : decode cX11_part 208 = .ok (.iload 4, 2) := by decide +kernel
theorem dX11_part_210 : decode cX11_part 210 = .ok (.iaload, 1) := by decide +kernel
theorem dX11_part_211 : decode cX11_part 211 = .ok (.i2l, 1) := by decide +kernel
theorem dX11_part_212 : decode cX11_part 212 = .ok (.ldiv, 1) := by decide +kernel
theorem dX11_part_213 : decode cX11_part 213 = .ok (.lmul, 1) := by decide +kernel
theorem dX11_part_214 : decode cX11_part 214 = .ok (.ladd, 1) := by decide +kernel
theorem dX11_part_215 : decode cX11_part 215 = .ok (.lastore, 1) := by decide +kernel
theorem dX11_part_216 : decode cX11_part 216 = .ok (.aload_n 0, 1) := by decide +kernel
theorem dX11_part_217 : decode cX11_part 217 = .ok (.getfield 51, 3) := by decide +kernel
theorem dX11_part_220 : decode cX11_part 220 = .ok (.iload_n 1, 1) := by decide +kernel
theorem dX11_part_221 : decode cX11_part 221 = .ok (.dup2, 1) := by decide +kernel
theorem dX11_part_222 : decode cX11_part 222 = .ok (.iaload, 1) := by decide +kernel
theorem dX11_part_223 : decode cX11_part 223 = .ok (.aload_n 0, 1) := by decide +kernel
theorem dX11_part_224 : decode cX11_part 224 = .ok (.getfield 51, 3) := by decide +kernel
theorem dX11_part_227 : decode cX11_part 227 = .ok (.iload 4, 2) := by decide +kernel
theorem dX11_part_229 : decode cX11_part 229 = .ok (.iaload, 1) := by decide +kernel
theorem dX11_part_230 : decode cX11_part 230 = .ok (.ior, 1) := by decide +kernel
theorem dX11_part_231 : decode cX11_part 231 = .ok (.iastore, 1) := by decide +kernel
theorem dX11_part_232 : decode cX11_part 232 = .ok (.iconst 0, 1) := by decide +kernel
theorem dX11_part_233 : decode cX11_part 233 = .ok (.istore 5, 2) := by decide +kernel
theorem dX11_part_235 : decode cX11_part 235 = .ok (.iload 5, 2) := by decide +kernel
theorem dX11_part_237 : decode cX11_part 237 = .ok (.bipush 16, 2) := by decide +kernel
theorem dX11_part_239 : decode cX11_part 239 = .ok (.if_icmp .ge 49, 3) := by decide +kernel
theorem dX11_part_242 : decode cX11_part 242 = .ok (.aload_n 0, 1) := by decide +kernel
theorem dX11_part_243 : decode cX11_part 243 = .ok (.getfield 57, 3) := by decide +kernel
theorem dX11_part_246 : decode cX11_part 246 = .ok (.bipush 16, 2) := by decide +kernel
theorem dX11_part_248 : decode cX11_part 248 = .ok (.iload_n 1, 1) := by decide +kernel
theorem dX11_part_249 : decode cX11_part 249 = .ok (.imul, 1) := by decide +kernel
theorem dX11_part_250 : decode cX11_part 250 = .ok (.iload 5, 2) := by decide +kernel
theorem dX11_part_252 : decode cX11_part 252 = .ok (.iadd, 1) := by decide +kernel
theorem dX11_part_253 : decode cX11_part 253 = .ok (.dup2, 1) := by decide +kernel
theorem dX11_part_254 : decode cX11_part 254 = .ok (.laload, 1) := by decide +kernel
theorem dX11_part_255 : decode cX11_part 255 = .ok (.iload_n 2, 1) := by decide +kernel
theorem dX11_part_256 : decode cX11_part 256 = .ok (.i2l, 1) := by decide +kernel
theorem dX11_part_257 : decode cX11_part 257 = .ok (.aload_n 0, 1) := by decide +kernel
theorem dX11_part_258 : decode cX11_part 258 = .ok (.getfield 57, 3) := by decide +kernel
theorem dX11_part_261 : decode cX11_part 261 = .ok (.bipush 16, 2) := by decide +kernel
theorem dX11_part_263 : decode cX11_part 263 = .ok (.iload 4, 2) := by decide +kernel
theorem dX11_part_265 : decode cX11_part 265 = .ok (.imul, 1) := by decide +kernel
theorem dX11_part_266 : decode cX11_part 266 = .ok (.iload 5, 2) := by decide +kernel
theorem dX11_part_268 : decode cX11_part 268 = .ok (.iadd, 1) := by decide +kernel
theorem dX11_part_269 : decode cX11_part 269 = .ok (.laload, 1) := by decide +kernel
theorem dX11_part_270 : decode cX11_part 270 = .ok (.lmul, 1) := by decide +kernel
theorem dX11_part_271 : decode cX11_part 271 = .ok (.aload_n 0, 1) := by decide +kernel
theorem dX11_part_272 : decode cX11_part 272 = .ok (.getfield 42, 3) := by decide +kernel
theorem dX11_part_275 : decode cX11_part 275 = .ok (.iload 4, 2) := by decide +kernel
theorem dX11_part_277 : decode cX11_part 277 = .ok (.iaload, 1) := by decide +kernel
theorem dX11_part_278 : decode cX11_part 278 = .ok (.i2l, 1) := by decide +kernel
theorem dX11_part_279 : decode cX11_part 279 = .ok (.ldiv, 1) := by decide +kernel
theorem dX11_part_280 : decode cX11_part 280 = .ok (.ladd, 1) := by decide +kernel
theorem dX11_part_281 : decode cX11_part 281 = .ok (.lastore, 1) := by decide +kernel
theorem dX11_part_282 : decode cX11_part 282 = .ok (.iinc 5 1, 3) := by decide +kernel
theorem dX11_part_285 : decode cX11_part 285 = .ok (.goto (-50), 3) := by decide +kernel
theorem dX11_part_288 : decode cX11_part 288 = .ok (.goto 80, 3) := by decide +kernel
theorem dX11_part_291 : decode cX11_part 291 = .ok (.aload_n 0, 1) := by decide +kernel
theorem dX11_part_292 : decode cX11_part 292 = .ok (.getfield 45, 3) := by decide +kernel
theorem dX11_part_295 : decode cX11_part 295 = .ok (.iload_n 1, 1) := by decide +kernel
theorem dX11_part_296 : decode cX11_part 296 = .ok (.dup2, 1) := by decide +kernel
theorem dX11_part_297 : decode cX11_part 297 = .ok (.laload, 1) := by decide +kernel
theorem dX11_part_298 : decode cX11_part 298 = .ok (.iload_n 2, 1) := by decide +kernel
theorem dX11_part_299 : decode cX11_part 299 = .ok (.aload_n 0, 1) := by decide +kernel
theorem dX11_part_300 : decode cX11_part 300 = .ok (.getfield 30, 3) := by decide +kernel
theorem dX11_part_303 : decode cX11_part 303 = .ok (.iload 4, 2) := by decide +kernel
theorem dX11_part_305 : decode cX11_part 305 = .ok (.iaload, 1) := by decide +kernel
theorem dX11_part_306 : decode cX11_part 306 = .ok (.imul, 1) := by decide +kernel
theorem dX11_part_307 : decode cX11_part 307 = .ok (.bipush 100, 2) := by decide +kernel
theorem dX11_part_309 : decode cX11_part 309 = .ok (.idiv, 1) := by decide +kernel
theorem dX11_part_310 : decode cX11_part 310 = .ok (.i2l, 1) := by decide +kernel
theorem dX11_part_311 : decode cX11_part 311 = .ok (.ladd, 1) := by decide +kernel
theorem dX11_part_312 : decode cX11_part 312 = .ok (.lastore, 1) := by decide +kernel
theorem dX11_part_313 : decode cX11_part 313 = .ok (.aload_n 0, 1) := by decide +kernel
theorem dX11_part_314 : decode cX11_part 314 = .ok (.getfield 48, 3) := by decide +kernel
theorem dX11_part_317 : decode cX11_part 317 = .ok (.iload_n 1, 1) := by decide +kernel
theorem dX11_part_318 : decode cX11_part 318 = .ok (.dup2, 1) := by decide +kernel
theorem dX11_part_319 : decode cX11_part 319 = .ok (.laload, 1) := by decide +kernel
theorem dX11_part_320 : decode cX11_part 320 = .ok (.iload_n 2, 1) := by decide +kernel
theorem dX11_part_321 : decode cX11_part 321 = .ok (.aload_n 0, 1) := by decide +kernel
theorem dX11_part_322 : decode cX11_part 322 = .ok (.getfield 33, 3) := by decide +kernel
theorem dX11_part_325 : decode cX11_part 325 = .ok (.iload 4, 2) := by decide +kernel
theorem dX11_part_327 : decode cX11_part 327 = .ok (.iaload, 1) := by decide +kernel
theorem dX11_part_328 : decode cX11_part 328 = .ok (.imul, 1) := by decide +kernel
theorem dX11_part_329 : decode cX11_part 329 = .ok (.bipush 100, 2) := by decide +kernel
theorem dX11_part_331 : decode cX11_part 331 = .ok (.idiv, 1) := by decide +kernel
theorem dX11_part_332 : decode cX11_part 332 = .ok (.i2l, 1) := by decide +kernel
theorem dX11_part_333 : decode cX11_part 333 = .ok (.ladd, 1) := by decide +kernel
theorem dX11_part_334 : decode cX11_part 334 = .ok (.lastore, 1) := by decide +kernel
theorem dX11_part_335 : decode cX11_part 335 = .ok (.aload_n 0, 1) := by decide +kernel
theorem dX11_part_336 : decode cX11_part 336 = .ok (.getfield 51, 3) := by decide +kernel
theorem dX11_part_339 : decode cX11_part 339 = .ok (.iload_n 1, 1) := by decide +kernel
theorem dX11_part_340 : decode cX11_part 340 = .ok (.dup2, 1) := by decide +kernel
theorem dX11_part_341 : decode cX11_part 341 = .ok (.iaload, 1) := by decide +kernel
theorem dX11_part_342 : decode cX11_part 342 = .ok (.aload_n 0, 1) := by decide +kernel
theorem dX11_part_343 : decode cX11_part 343 = .ok (.getfield 36, 3) := by decide +kernel
theorem dX11_part_346 : decode cX11_part 346 = .ok (.iload 4, 2) := by decide +kernel
theorem dX11_part_348 : decode cX11_part 348 = .ok (.iaload, 1) := by decide +kernel
theorem dX11_part_349 : decode cX11_part 349 = .ok (.ior, 1) := by decide +kernel
theorem dX11_part_350 : decode cX11_part 350 = .ok (.iastore, 1) := by decide +kernel
theorem dX11_part_351 : decode cX11_part 351 = .ok (.aload_n 0, 1) := by decide +kernel
theorem dX11_part_352 : decode cX11_part 352 = .ok (.getfield 57, 3) := by decide +kernel
theorem dX11_part_355 : decode cX11_part 355 = .ok (.bipush 16, 2) := by decide +kernel
theorem dX11_part_357 : decode cX11_part 357 = .ok (.iload_n 1, 1) := by decide +kernel
theorem dX11_part_358 : decode cX11_part 358 = .ok (.imul, 1) := by decide +kernel
theorem dX11_part_359 : decode cX11_part 359 = .ok (.iload 4, 2) := by decide +kernel
theorem dX11_part_361 : decode cX11_part 361 = .ok (.iadd, 1) := by decide +kernel
theorem dX11_part_362 : decode cX11_part 362 = .ok (.dup2, 1) := by decide +kernel
theorem dX11_part_363 : decode cX11_part 363 = .ok (.laload, 1) := by decide +kernel
theorem dX11_part_364 : decode cX11_part 364 = .ok (.iload_n 2, 1) := by decide +kernel
theorem dX11_part_365 : decode cX11_part 365 = .ok (.i2l, 1) := by decide +kernel
theorem dX11_part_366 : decode cX11_part 366 = .ok (.ladd, 1) := by decide +kernel
theorem dX11_part_367 : decode cX11_part 367 = .ok (.lastore, 1) := by decide +kernel
theorem dX11_part_368 : decode cX11_part 368 = .ok (.iconst 0, 1) := by decide +kernel
theorem dX11_part_369 : decode cX11_part 369 = .ok (.ireturn, 1) := by decide +kernel
theorem dX11_isKnown_0 : decode cX11_isKnown 0 = .ok (.aload_n 0, 1) := by decide +kernel
theorem dX11_isKnown_1 : decode cX11_isKnown 1 = .ok (.getfield 39, 3) := by decide +kernel
theorem dX11_isKnown_4 : decode cX11_isKnown 4 = .ok (.aload_n 0, 1) := by decide +kernel
theorem dX11_isKnown_5 : decode cX11_isKnown 5 = .ok (.getfield 247, 3) := by decide +kernel
theorem dX11_isKnown_8 : decode cX11_isKnown 8 = .ok (.aload_n 0, 1) := by decide +kernel
theorem dX11_isKnown_9 : decode cX11_isKnown 9 = .ok (.iload_n 1, 1) := by decide +kernel
theorem dX11_isKnown_10 : decode cX11_isKnown 10 = .ok (.invokevirtual 265, 3) := by decide +kernel
theorem dX11_isKnown_13 : decode cX11_isKnown 13 = .ok (.invokestatic 243, 3) := by decide +kernel
theorem dX11_isKnown_16 : decode cX11_isKnown 16 = .ok (.iconst (-1), 1) := by decide +kernel
theorem dX11_isKnown_17 : decode cX11_isKnown 17 = .ok (.if_icmp .ne 23, 3) := by decide +kernel
theorem dX11_isKnown_20 : decode cX11_isKnown 20 = .ok (.aload_n 0, 1) := by decide +kernel
theorem dX11_isKnown_21 : decode cX11_isKnown 21 = .ok (.getfield 90, 3) := by decide +kernel
theorem dX11_isKnown_24 : decode cX11_isKnown 24 = .ok (.aload_n 0, 1) := by decide +kernel
theorem dX11_isKnown_25 : decode cX11_isKnown 25 = .ok (.getfield 269, 3) := by decide +kernel
theorem dX11_isKnown_28 : decode cX11_isKnown 28 = .ok (.aload_n 0, 1) := by decide +kernel
theorem dX11_isKnown_29 : decode cX11_isKnown 29 = .ok (.iload_n 1, 1) := by decide +kernel
theorem dX11_isKnown_30 : decode cX11_isKnown 30 = .ok (.invokevirtual 265, 3) := by decide +kernel
theorem dX11_isKnown_33 : decode cX11_isKnown 33 = .ok (.invokestatic 243, 3) := by decide +kernel
theorem dX11_isKnown_36 : decode cX11_isKnown 36 = .ok (.iconst (-1), 1) := by decide +kernel
theorem dX11_isKnown_37 : decode cX11_isKnown 37 = .ok (.if_icmp .eq 7, 3) := by decide +kernel
theorem dX11_isKnown_40 : decode cX11_isKnown 40 = .ok (.iconst 1, 1) := by decide +kernel
theorem dX11_isKnown_41 : decode cX11_isKnown 41 = .ok (.goto 4, 3) := by decide +kernel
theorem dX11_isKnown_44 : decode cX11_isKnown 44 = .ok (.iconst 0, 1) := by decide +kernel
theorem dX11_isKnown_45 : decode cX11_isKnown 45 = .ok (.ireturn, 1) := by decide +kernel
theorem dX11_meal_0 : decode cX11_meal 0 = .ok (.aload_n 0, 1) := by decide +kernel
theorem dX11_meal_1 : decode cX11_meal 1 = .ok (.getfield 250, 3) := by decide +kernel
theorem dX11_meal_4 : decode cX11_meal 4 = .ok (.iconst 4, 1) := by decide +kernel
theorem dX11_meal_5 : decode cX11_meal 5 = .ok (.if_icmp .ne 10, 3) := by decide +kernel
theorem dX11_meal_8 : decode cX11_meal 8 = .ok (.aload_n 0, 1) := by decide +kernel
theorem dX11_meal_9 : decode cX11_meal 9 = .ok (.iconst 4, 1) := by decide +kernel
theorem dX11_meal_10 : decode cX11_meal 10 = .ok (.iload_n 1, 1) := by decide +kernel
theorem dX11_meal_11 : decode cX11_meal 11 = .ok (.invokevirtual 261, 3) := by decide +kernel
theorem dX11_meal_14 : decode cX11_meal 14 = .ok (.ireturn, 1) := by decide +kernel
theorem dX11_meal_15 : decode cX11_meal 15 = .ok (.aload_n 0, 1) := by decide +kernel
theorem dX11_meal_16 : decode cX11_meal 16 = .ok (.aload_n 0, 1) := by decide +kernel
theorem dX11_meal_17 : decode cX11_meal 17 = .ok (.aload_n 0, 1) := by decide +kernel
theorem dX11_meal_18 : decode cX11_meal 18 = .ok (.getfield 144, 3) := by decide +kernel
theorem dX11_meal_21 : decode cX11_meal 21 = .ok (.invokevirtual 265, 3) := by decide +kernel
theorem dX11_meal_24 : decode cX11_meal 24 = .ok (.invokevirtual 272, 3) := by decide +kernel
theorem dX11_meal_27 : decode cX11_meal 27 = .ok (.ifCond .eq 13, 3) := by decide +kernel
theorem dX11_meal_30 : decode cX11_meal 30 = .ok (.aload_n 0, 1) := by decide +kernel
theorem dX11_meal_31 : decode cX11_meal 31 = .ok (.iconst 3, 1) := by decide +kernel
theorem dX11_meal_32 : decode cX11_meal 32 = .ok (.aload_n 0, 1) := by decide +kernel
theorem dX11_meal_33 : decode cX11_meal 33 = .ok (.getfield 144, 3) := by decide +kernel
theorem dX11_meal_36 : decode cX11_meal 36 = .ok (.invokevirtual 261, 3) := by decide +kernel
theorem dX11_meal_39 : decode cX11_meal 39 = .ok (.ireturn, 1) := by decide +kernel
theorem dX11_meal_40 : decode cX11_meal 40 = .ok (.aload_n 0, 1) := by decide +kernel
theorem dX11_meal_41 : decode cX11_meal 41 = .ok (.getfield 60, 3) := by decide +kernel
theorem dX11_meal_44 : decode cX11_meal 44 = .ok (.aload_n 0, 1) := by decide +kernel
theorem dX11_meal_45 : decode cX11_meal 45 = .ok (.getfield 250, 3) := by decide +kernel
theorem dX11_meal_48 : decode cX11_meal 48 = .ok (.aload_n 0, 1) := by decide +kernel
theorem dX11_meal_49 : decode cX11_meal 49 = .ok (.aload_n 0, 1) := by decide +kernel
theorem dX11_meal_50 : decode cX11_meal 50 = .ok (.getfield 144, 3) := by decide +kernel
theorem dX11_meal_53 : decode cX11_meal 53 = .ok (.invokevirtual 265, 3) := by decide +kernel
theorem dX11_meal_56 : decode cX11_meal 56 = .ok (.lastore, 1) := by decide +kernel
theorem dX11_meal_57 : decode cX11_meal 57 = .ok (.aload_n 0, 1) := by decide +kernel
theorem dX11_meal_58 : decode cX11_meal 58 = .ok (.dup, 1) := by decide +kernel
theorem dX11_meal_59 : decode cX11_meal 59 = .ok (.getfield 250, 3) := by decide +kernel
theorem dX11_meal_62 : decode cX11_meal 62 = .ok (.iconst 1, 1) := by decide +kernel
theorem dX11_meal_63 : decode cX11_meal 63 = .ok (.iadd, 1) := by decide +kernel
theorem dX11_meal_64 : decode cX11_meal 64 = .ok (.putfield 250, 3) := by decide +kernel
theorem dX11_meal_67 : decode cX11_meal 67 = .ok (.aload_n 0, 1) := by decide +kernel
theorem dX11_meal_68 : decode cX11_meal 68 = .ok (.dup, 1) := by decide +kernel
theorem dX11_meal_69 : decode cX11_meal 69 = .ok (.getfield 144, 3) := by decide +kernel
theorem dX11_meal_72 : decode cX11_meal 72 = .ok (.iconst 1, 1) := by decide +kernel
theorem dX11_meal_73 : decode cX11_meal 73 = .ok (.iadd, 1) := by decide +kernel
theorem dX11_meal_74 : decode cX11_meal 74 = .ok (.putfield 144, 3) := by decide +kernel
theorem dX11_meal_77 : decode cX11_meal 77 = .ok (.aload_n 0, 1) := by decide +kernel
theorem dX11_meal_78 : decode cX11_meal 78 = .ok (.dup, 1) := by decide +kernel
theorem dX11_meal_79 : decode cX11_meal 79 = .ok (.getfield 144, 3) := by decide +kernel
theorem dX11_meal_82 : decode cX11_meal 82 = .ok (.iconst 1, 1) := by decide +kernel
theorem dX11_meal_83 : decode cX11_meal 83 = .ok (.iadd, 1) := by decide +kernel
theorem dX11_meal_84 : decode cX11_meal 84 = .ok (.putfield 144, 3) := by decide +kernel
theorem dX11_meal_87 : decode cX11_meal 87 = .ok (.aload_n 0, 1) := by decide +kernel
theorem dX11_meal_88 : decode cX11_meal 88 = .ok (.getfield 289, 3) := by decide +kernel
theorem dX11_meal_91 : decode cX11_meal 91 = .ok (.bipush 8, 2) := by decide +kernel
theorem dX11_meal_93 : decode cX11_meal 93 = .ok (.if_icmp .ne 13, 3) := by decide +kernel
theorem dX11_meal_96 : decode cX11_meal 96 = .ok (.aload_n 0, 1) := by decide +kernel
theorem dX11_meal_97 : decode cX11_meal 97 = .ok (.iconst 4, 1) := by decide +kernel
theorem dX11_meal_98 : decode cX11_meal 98 = .ok (.aload_n 0, 1) := by decide +kernel
theorem dX11_meal_99 : decode cX11_meal 99 = .ok (.getfield 144, 3) := by decide +kernel
theorem dX11_meal_102 : decode cX11_meal 102 = .ok (.invokevirtual 261, 3) := by decide +kernel
theorem dX11_meal_105 : decode cX11_meal 105 = .ok (.ireturn, 1) := by decide +kernel
theorem dX11_meal_106 : decode cX11_meal 106 = .ok (.aload_n 0, 1) := by decide +kernel
theorem dX11_meal_107 : decode cX11_meal 107 = .ok (.getfield 69, 3) := by decide +kernel
theorem dX11_meal_110 : decode cX11_meal 110 = .ok (.aload_n 0, 1) := by decide +kernel
theorem dX11_meal_111 : decode cX11_meal 111 = .ok (.getfield 289, 3) := by decide +kernel
theorem dX11_meal_114 : decode cX11_meal 114 = .ok (.aload_n 0, 1) := by decide +kernel
theorem dX11_meal_115 : decode cX11_meal 115 = .ok (.getfield 144, 3) := by decide +kernel
theorem dX11_meal_118 : decode cX11_meal 118 = .ok (.iastore, 1) := by decide +kernel
theorem dX11_meal_119 : decode cX11_meal 119 = .ok (.aload_n 0, 1) := by decide +kernel
theorem dX11_meal_120 : decode cX11_meal 120 = .ok (.getfield 72, 3) := by decide +kernel
theorem dX11_meal_123 : decode cX11_meal 123 = .ok (.aload_n 0, 1) := by decide +kernel
theorem dX11_meal_124 : decode cX11_meal 124 = .ok (.getfield 289, 3) := by decide +kernel
theorem dX11_meal_127 : decode cX11_meal 127 = .ok (.aload_n 0, 1) := by decide +kernel
theorem dX11_meal_128 : decode cX11_meal 128 = .ok (.getfield 247, 3) := by decide +kernel
theorem dX11_meal_131 : decode cX11_meal 131 = .ok (.iastore, 1) := by decide +kernel
theorem dX11_meal_132 : decode cX11_meal 132 = .ok (.aload_n 0, 1) := by decide +kernel
theorem dX11_meal_133 : decode cX11_meal 133 = .ok (.getfield 63, 3) := by decide +kernel
theorem dX11_meal_136 : decode cX11_meal 136 = .ok (.aload_n 0, 1) := by decide +kernel
theorem dX11_meal_137 : decode cX11_meal 137 = .ok (.getfield 289, 3) := by decide +kernel
theorem dX11_meal_140 : decode cX11_meal 140 = .ok (.aload_n 0, 1) := by decide +kernel
theorem dX11_meal_141 : decode cX11_meal 141 = .ok (.getfield 250, 3) := by decide +kernel
theorem dX11_meal_144 : decode cX11_meal 144 = .ok (.iconst 1, 1) := by decide +kernel
theorem dX11_meal_145 : decode cX11_meal 145 = .ok (.isub, 1) := by decide +kernel
theorem dX11_meal_146 : decode cX11_meal 146 = .ok (.iastore, 1) := by decide +kernel
theorem dX11_meal_147 : decode cX11_meal 147 = .ok (.aload_n 0, 1) := by decide +kernel
theorem dX11_meal_148 : decode cX11_meal 148 = .ok (.dup, 1) := by decide +kernel
theorem dX11_meal_149 : decode cX11_meal 149 = .ok (.getfield 289, 3) := by decide +kernel
theorem dX11_meal_152 : decode cX11_meal 152 = .ok (.iconst 1, 1) := by decide +kernel
theorem dX11_meal_153 : decode cX11_meal 153 = .ok (.iadd, 1) := by decide +kernel
theorem dX11_meal_154 : decode cX11_meal 154 = .ok (.putfield 289, 3) := by decide +kernel
theorem dX11_meal_157 : decode cX11_meal 157 = .ok (.aload_n 0, 1) := by decide +kernel
theorem dX11_meal_158 : decode cX11_meal 158 = .ok (.invokevirtual 292, 3) := by decide +kernel
theorem dX11_meal_161 : decode cX11_meal 161 = .ok (.istore_n 2, 1) := by decide +kernel
theorem dX11_meal_162 : decode cX11_meal 162 = .ok (.iload_n 2, 1) := by decide +kernel
theorem dX11_meal_163 : decode cX11_meal 163 = .ok (.ifCond .eq 5, 3) := by decide +kernel
theorem dX11_meal_166 : decode cX11_meal 166 = .ok (.iload_n 2, 1) := by decide +kernel
theorem dX11_meal_167 : decode cX11_meal 167 = .ok (.ireturn, 1) := by decide +kernel
theorem dX11_meal_168 : decode cX11_meal 168 = .ok (.aload_n 0, 1) := by decide +kernel
theorem dX11_meal_169 : decode cX11_meal 169 = .ok (.ldc 196, 2) := by decide +kernel
theorem dX11_meal_171 : decode cX11_meal 171 = .ok (.invokevirtual 147, 3) := by decide +kernel
theorem dX11_meal_174 : decode cX11_meal 174 = .ok (.ifCond .ne (-97), 3) := by decide +kernel
theorem dX11_meal_177 : decode cX11_meal 177 = .ok (.iconst 0, 1) := by decide +kernel
theorem dX11_meal_178 : decode cX11_meal 178 = .ok (.ireturn, 1) := by decide +kernel
theorem dX11_look_0 : decode cX11_look 0 = .ok (.aload_n 0, 1) := by decide +kernel
theorem dX11_look_1 : decode cX11_look 1 = .ok (.ldc 196, 2) := by decide +kernel
theorem dX11_look_3 : decode cX11_look 3 = .ok (.invokevirtual 147, 3) := by decide +kernel
theorem dX11_look_6 : decode cX11_look 6 = .ok (.ifCond .ne 69, 3) := by decide +kernel
theorem dX11_look_9 : decode cX11_look 9 = .ok (.aload_n 0, 1) := by decide +kernel
theorem dX11_look_10 : decode cX11_look 10 = .ok (.ldc 174, 2) := by decide +kernel
theorem dX11_look_12 : decode cX11_look 12 = .ok (.invokevirtual 147, 3) := by decide +kernel
theorem dX11_look_15 : decode cX11_look 15 = .ok (.ifCond .ne 60, 3) := by decide +kernel
theorem dX11_look_18 : decode cX11_look 18 = .ok (.aload_n 0, 1) := by decide +kernel
theorem dX11_look_19 : decode cX11_look 19 = .ok (.getfield 17, 3) := by decide +kernel
theorem dX11_look_22 : decode cX11_look 22 = .ok (.aload_n 0, 1) := by decide +kernel
theorem dX11_look_23 : decode cX11_look 23 = .ok (.getfield 144, 3) := by decide +kernel
theorem dX11_look_26 : decode cX11_look 26 = .ok (.iaload, 1) := by decide +kernel
theorem dX11_look_27 : decode cX11_look 27 = .ok (.ifCond .eq 48, 3) := by decide +kernel
theorem dX11_look_30 : decode cX11_look 30 = .ok (.aload_n 0, 1) := by decide +kernel
theorem dX11_look_31 : decode cX11_look 31 = .ok (.aload_n 0, 1) := by decide +kernel
theorem dX11_look_32 : decode cX11_look 32 = .ok (.getfield 144, 3) := by decide +kernel
theorem dX11_look_35 : decode cX11_look 35 = .ok (.invokevirtual 151, 3) := by decide +kernel
theorem dX11_look_38 : decode cX11_look 38 = .ok (.ifCond .eq 24, 3) := by decide +kernel
theorem dX11_look_41 : decode cX11_look 41 = .ok (.aload_n 0, 1) := by decide +kernel
theorem dX11_look_42 : decode cX11_look 42 = .ok (.aload_n 0, 1) := by decide +kernel
theorem dX11_look_43 : decode cX11_look 43 = .ok (.getfield 144, 3) := by decide +kernel
theorem dX11_look_46 : decode cX11_look 46 = .ok (.invokevirtual 295, 3) := by decide +kernel
theorem dX11_look_49 : decode cX11_look 49 = .ok (.ifCond .ne 13, 3) := by decide +kernel
theorem dX11_look_52 : decode cX11_look 52 = .ok (.aload_n 0, 1) := by decide +kernel
theorem dX11_look_53 : decode cX11_look 53 = .ok (.iconst 2, 1) := by decide +kernel
theorem dX11_look_54 : decode cX11_look 54 = .ok (.aload_n 0, 1) := by decide +kernel
theorem dX11_look_55 : decode cX11_look 55 = .ok (.getfield 144, 3) := by decide +kernel
theorem dX11_look_58 : decode cX11_look 58 = .ok (.invokevirtual 261, 3) := by decide +kernel
theorem dX11_look_61 : decode cX11_look 61 = .ok (.ireturn, 1) := by decide +kernel
theorem dX11_look_62 : decode cX11_look 62 = .ok (.aload_n 0, 1) := by decide +kernel
theorem dX11_look_63 : decode cX11_look 63 = .ok (.dup, 1) := by decide +kernel
theorem dX11_look_64 : decode cX11_look 64 = .ok (.getfield 144, 3) := by decide +kernel
theorem dX11_look_67 : decode cX11_look 67 = .ok (.iconst 1, 1) := by decide +kernel
theorem dX11_look_68 : decode cX11_look 68 = .ok (.iadd, 1) := by decide +kernel
theorem dX11_look_69 : decode cX11_look 69 = .ok (.putfield 144, 3) := by decide +kernel
theorem dX11_look_72 : decode cX11_look 72 = .ok (.goto (-72), 3) := by decide +kernel
theorem dX11_look_75 : decode cX11_look 75 = .ok (.iconst 0, 1) := by decide +kernel
theorem dX11_look_76 : decode cX11_look 76 = .ok (.ireturn, 1) := by decide +kernel
theorem dX11_rule_0 : decode cX11_rule 0 = .ok (.aload_n 0, 1) := by decide +kernel
theorem dX11_rule_1 : decode cX11_rule 1 = .ok (.getfield 298, 3) := by decide +kernel
theorem dX11_rule_4 : decode cX11_rule 4 = .ok (.bipush 8, 2) := by decide +kernel
theorem dX11_rule_6 : decode cX11_rule 6 = .ok (.if_icmp .ne 10, 3) := by decide +kernel
theorem dX11_rule_9 : decode cX11_rule 9 = .ok (.aload_n 0, 1) := by decide +kernel
theorem dX11_rule_10 : decode cX11_rule 10 = .ok (.iconst 4, 1) := by decide +kernel
theorem dX11_rule_11 : decode cX11_rule 11 = .ok (.iload_n 1, 1) := by decide +kernel
theorem dX11_rule_12 : decode cX11_rule 12 = .ok (.invokevirtual 261, 3) := by decide +kernel
theorem dX11_rule_15 : decode cX11_rule 15 = .ok (.ireturn, 1) := by decide +kernel
theorem dX11_rule_16 : decode cX11_rule 16 = .ok (.aload_n 0, 1) := by decide +kernel
theorem dX11_rule_17 : decode cX11_rule 17 = .ok (.getfield 298, 3) := by decide +kernel
theorem dX11_rule_20 : decode cX11_rule 20 = .ok (.istore_n 2, 1) := by decide +kernel
theorem dX11_rule_21 : decode cX11_rule 21 = .ok (.aload_n 0, 1) := by decide +kernel
theorem dX11_rule_22 : decode cX11_rule 22 = .ok (.getfield 75, 3) := by decide +kernel
theorem dX11_rule_25 : decode cX11_rule 25 = .ok (.iload_n 2, 1) := by decide +kernel
theorem dX11_rule_26 : decode cX11_rule 26 = .ok (.aload_n 0, 1) := by decide +kernel
theorem dX11_rule_27 : decode cX11_rule 27 = .ok (.ldc 203, 2) := by decide +kernel
theorem dX11_rule_29 : decode cX11_rule 29 = .ok (.invokevirtual 147, 3) := by decide +kernel
theorem dX11_rule_32 : decode cX11_rule 32 = .ok (.ifCond .eq 7, 3) := by decide +kernel
theorem dX11_rule_35 : decode cX11_rule 35 = .ok (.iconst 0, 1) := by decide +kernel
theorem dX11_rule_36 : decode cX11_rule 36 = .ok (.goto 30, 3) := by decide +kernel
theorem dX11_rule_39 : decode cX11_rule 39 = .ok (.aload_n 0, 1) := by decide +kernel
theorem dX11_rule_40 : decode cX11_rule 40 = .ok (.ldc 209, 2) := by decide +kernel
theorem dX11_rule_42 : decode cX11_rule 42 = .ok (.invokevirtual 147, 3) := by decide +kernel
theorem dX11_rule_45 : decode cX11_rule 45 = .ok (.ifCond .eq 7, 3) := by decide +kernel
theorem dX11_rule_48 : decode cX11_rule 48 = .ok (.iconst 1, 1) := by decide +kernel
theorem dX11_rule_49 : decode cX11_rule 49 = .ok (.goto 17, 3) := by decide +kernel
theorem dX11_rule_52 : decode cX11_rule 52 = .ok (.aload_n 0, 1) := by decide +kernel
theorem dX11_rule_53 : decode cX11_rule 53 = .ok (.ldc 211, 2) := by decide +kernel
theorem dX11_rule_55 : decode cX11_rule 55 = .ok (.invokevirtual 147, 3) := by decide +kernel
theorem dX11_rule_58 : decode cX11_rule 58 = .ok (.ifCond .eq 7, 3) := by decide +kernel
theorem dX11_rule_61 : decode cX11_rule 61 = .ok (.iconst 2, 1) := by decide +kernel
theorem dX11_rule_62 : decode cX11_rule 62 = .ok (.goto 4, 3) := by decide +kernel
theorem dX11_rule_65 : decode cX11_rule 65 = .ok (.iconst 3, 1) := by decide +kernel
theorem dX11_rule_66 : decode cX11_rule 66 = .ok (.iastore, 1) := by decide +kernel
theorem dX11_rule_67 : decode cX11_rule 67 = .ok (.aload_n 0, 1) := by decide +kernel
theorem dX11_rule_68 : decode cX11_rule 68 = .ok (.dup, 1) := by decide +kernel
theorem dX11_rule_69 : decode cX11_rule 69 = .ok (.getfield 144, 3) := by decide +kernel
theorem dX11_rule_72 : decode cX11_rule 72 = .ok (.iconst 1, 1) := by decide +kernel
theorem dX11_rule_73 : decode cX11_rule 73 = .ok (.iadd, 1) := by decide +kernel
theorem dX11_rule_74 : decode cX11_rule 74 = .ok (.putfield 144, 3) := by decide +kernel
theorem dX11_rule_77 : decode cX11_rule 77 = .ok (.iconst 4, 1) := by decide +kernel
theorem dX11_rule_78 : decode cX11_rule 78 = .ok (.newarray .int, 2) := by decide +kernel
theorem dX11_rule_80 : decode cX11_rule 80 = .ok (.dup, 1) := by decide +kernel
theorem dX11_rule_81 : decode cX11_rule 81 = .ok (.iconst 0, 1) := by decide +kernel
theorem dX11_rule_82 : decode cX11_rule 82 = .ok (.iconst 1, 1) := by decide +kernel
theorem dX11_rule_83 : decode cX11_rule 83 = .ok (.iastore, 1) := by decide +kernel
theorem dX11_rule_84 : decode cX11_rule 84 = .ok (.dup, 1) := by decide +kernel
theorem dX11_rule_85 : decode cX11_rule 85 = .ok (.iconst 1, 1) := by decide +kernel
theorem dX11_rule_86 : decode cX11_rule 86 = .ok (.iconst 0, 1) := by decide +kernel
theorem dX11_rule_87 : decode cX11_rule 87 = .ok (.iastore, 1) := by decide +kernel
theorem dX11_rule_88 : decode cX11_rule 88 = .ok (.dup, 1) := by decide +kernel
theorem dX11_rule_89 : decode cX11_rule 89 = .ok (.iconst 2, 1) := by decide +kernel
theorem dX11_rule_90 : decode cX11_rule 90 = .ok (.iconst 1, 1) := by decide +kernel
theorem dX11_rule_91 : decode cX11_rule 91 = .ok (.iastore, 1) := by decide +kernel
theorem dX11_rule_92 : decode cX11_rule 92 = .ok (.dup, 1) := by decide +kernel
theorem dX11_rule_93 : decode cX11_rule 93 = .ok (.iconst 3, 1) := by decide +kernel
theorem dX11_rule_94 : decode cX11_rule 94 = .ok (.iconst 0, 1) := by decide +kernel
theorem dX11_rule_95 : decode cX11_rule 95 = .ok (.iastore, 1) := by decide +kernel
theorem dX11_rule_96 : decode cX11_rule 96 = .ok (.astore_n 3, 1) := by decide +kernel
theorem dX11_rule_97 : decode cX11_rule 97 = .ok (.iconst 4, 1) := by decide +kernel
theorem dX11_rule_98 : decode cX11_rule 98 = .ok (.newarray .int, 2) := by decide +kernel
theorem dX11_rule_100 : decode cX11_rule 100 = .ok (.dup, 1) := by decide +kernel
theorem dX11_rule_101 : decode cX11_rule 101 = .ok (.iconst 0, 1) := by decide +kernel
theorem dX11_rule_102 : decode cX11_rule 102 = .ok (.bipush 9, 2) := by decide +kernel
theorem dX11_rule_104 : decode cX11_rule 104 = .ok (.iastore, 1) := by decide +kernel
theorem dX11_rule_105 : decode cX11_rule 105 = .ok (.dup, 1) := by decide +kernel
theorem dX11_rule_106 : decode cX11_rule 106 = .ok (.iconst 1, 1) := by decide +kernel
theorem dX11_rule_107 : decode cX11_rule 107 = .ok (.bipush 9, 2) := by decide +kernel
theorem dX11_rule_109 : decode cX11_rule 109 = .ok (.iastore, 1) := by decide +kernel
theorem dX11_rule_110 : decode cX11_rule 110 = .ok (.dup, 1) := by decide +kernel
theorem dX11_rule_111 : decode cX11_rule 111 = .ok (.iconst 2, 1) := by decide +kernel
theorem dX11_rule_112 : decode cX11_rule 112 = .ok (.bipush 9, 2) := by decide +kernel
theorem dX11_rule_114 : decode cX11_rule 114 = .ok (.iastore, 1) := by decide +kernel
theorem dX11_rule_115 : decode cX11_rule 115 = .ok (.dup, 1) := by decide +kernel
theorem dX11_rule_116 : decode cX11_rule 116 = .ok (.iconst 3, 1) := by decide +kernel
theorem dX11_rule_117 : decode cX11_rule 117 = .ok (.sipush 9999, 3) := by decide +kernel
theorem dX11_rule_120 : decode cX11_rule 120 = .ok (.iastore, 1) := by decide +kernel
theorem dX11_rule_121 : decode cX11_rule 121 = .ok (.astore 4, 2) := by decide +kernel
theorem dX11_rule_123 : decode cX11_rule 123 = .ok (.aload_n 0, 1) := by decide +kernel
theorem dX11_rule_124 : decode cX11_rule 124 = .ok (.aload_n 0, 1) := by decide +kernel
theorem dX11_rule_125 : decode cX11_rule 125 = .ok (.getfield 144, 3) := by decide +kernel
theorem dX11_rule_128 : decode cX11_rule 128 = .ok (.invokevirtual 276, 3) := by decide +kernel
theorem dX11_rule_131 : decode cX11_rule 131 = .ok (.aload_n 3, 1) := by decide +kernel
theorem dX11_rule_132 : decode cX11_rule 132 = .ok (.aload_n 0, 1) := by decide +kernel
theorem dX11_rule_133 : decode cX11_rule 133 = .ok (.getfield 75, 3) := by decide +kernel
theorem dX11_rule_136 : decode cX11_rule 136 = .ok (.iload_n 2, 1) := by decide +kernel
theorem dX11_rule_137 : decode cX11_rule 137 = .ok (.iaload, 1) := by decide +kernel
theorem dX11_rule_138 : decode cX11_rule 138 = .ok (.iaload, 1) := by decide +kernel
theorem dX11_rule_139 : decode cX11_rule 139 = .ok (.aload 4, 2) := by decide +kernel
theorem dX11_rule_141 : decode cX11_rule 141 = .ok (.aload_n 0, 1) := by decide +kernel
theorem dX11_rule_142 : decode cX11_rule 142 = .ok (.getfield 75, 3) := by decide +kernel
theorem dX11_rule_145 : decode cX11_rule 145 = .ok (.iload_n 2, 1) := by decide +kernel
theorem dX11_rule_146 : decode cX11_rule 146 = .ok (.iaload, 1) := by decide +kernel
theorem dX11_rule_147 : decode cX11_rule 147 = .ok (.iaload, 1) := by decide +kernel
theorem dX11_rule_148 : decode cX11_rule 148 = .ok (.invokestatic 106, 3) := by decide +kernel
theorem dX11_rule_151 : decode cX11_rule 151 = .ok (.ifCond .ne 13, 3) := by decide +kernel
theorem dX11_rule_154 : decode cX11_rule 154 = .ok (.aload_n 0, 1) := by decide +kernel
theorem dX11_rule_155 : decode cX11_rule 155 = .ok (.iconst 5, 1) := by decide +kernel
theorem dX11_rule_156 : decode cX11_rule 156 = .ok (.aload_n 0, 1) := by decide +kernel
theorem dX11_rule_157 : decode cX11_rule 157 = .ok (.getfield 144, 3) := by decide +kernel
theorem dX11_rule_160 : decode cX11_rule 160 = .ok (.invokevirtual 261, 3) := by decide +kernel
theorem dX11_rule_163 : decode cX11_rule 163 = .ok (.ireturn, 1) := by decide +kernel
theorem dX11_rule_164 : decode cX11_rule 164 = .ok (.aload_n 0, 1) := by decide +kernel
theorem dX11_rule_165 : decode cX11_rule 165 = .ok (.getfield 78, 3) := by decide +kernel
theorem dX11_rule_168 : decode cX11_rule 168 = .ok (.iload_n 2, 1) := by decide +kernel
theorem dX11_rule_169 : decode cX11_rule 169 = .ok (.aload_n 0, 1) := by decide +kernel
theorem dX11_rule_170 : decode cX11_rule 170 = .ok (.aload_n 0, 1) := by decide +kernel
theorem dX11_rule_171 : decode cX11_rule 171 = .ok (.getfield 144, 3) := by decide +kernel
theorem dX11_rule_174 : decode cX11_rule 174 = .ok (.invokevirtual 276, 3) := by decide +kernel
theorem dX11_rule_177 : decode cX11_rule 177 = .ok (.iastore, 1) := by decide +kernel
theorem dX11_rule_178 : decode cX11_rule 178 = .ok (.aload_n 0, 1) := by decide +kernel
theorem dX11_rule_179 : decode cX11_rule 179 = .ok (.getfield 81, 3) := by decide +kernel
theorem dX11_rule_182 : decode cX11_rule 182 = .ok (.iload_n 2, 1) := by decide +kernel
theorem dX11_rule_183 : decode cX11_rule 183 = .ok (.iconst 0, 1) := by decide +kernel
theorem dX11_rule_184 : decode cX11_rule 184 = .ok (.iastore, 1) := by decide +kernel
theorem dX11_rule_185 : decode cX11_rule 185 = .ok (.aload_n 0, 1) := by decide +kernel
theorem dX11_rule_186 : decode cX11_rule 186 = .ok (.getfield 84, 3) := by decide +kernel
theorem dX11_rule_189 : decode cX11_rule 189 = .ok (.iload_n 2, 1) := by decide +kernel
theorem dX11_rule_190 : decode cX11_rule 190 = .ok (.iconst (-1), 1) := by decide +kernel
theorem dX11_rule_191 : decode cX11_rule 191 = .ok (.iastore, 1) := by decide +kernel
theorem dX11_rule_192 : decode cX11_rule 192 = .ok (.aload_n 0, 1) := by decide +kernel
theorem dX11_rule_193 : decode cX11_rule 193 = .ok (.getfield 87, 3) := by decide +kernel
theorem dX11_rule_196 : decode cX11_rule 196 = .ok (.iload_n 2, 1) := by decide +kernel
theorem dX11_rule_197 : decode cX11_rule 197 = .ok (.iconst (-1), 1) := by decide +kernel
theorem dX11_rule_198 : decode cX11_rule 198 = .ok (.iastore, 1) := by decide +kernel
theorem dX11_rule_199 : decode cX11_rule 199 = .ok (.aload_n 0, 1) := by decide +kernel
theorem dX11_rule_200 : decode cX11_rule 200 = .ok (.dup, 1) := by decide +kernel
theorem dX11_rule_201 : decode cX11_rule 201 = .ok (.getfield 144, 3) := by decide +kernel
theorem dX11_rule_204 : decode cX11_rule 204 = .ok (.iconst 1, 1) := by decide +kernel
theorem dX11_rule_205 : decode cX11_rule 205 = .ok (.iadd, 1) := by decide +kernel
theorem dX11_rule_206 : decode cX11_rule 206 = .ok (.putfield 144, 3) := by decide +kernel
theorem dX11_rule_209 : decode cX11_rule 209 = .ok (.aload_n 0, 1) := by decide +kernel
theorem dX11_rule_210 : decode cX11_rule 210 = .ok (.getfield 75, 3) := by decide +kernel
theorem dX11_rule_213 : decode cX11_rule 213 = .ok (.iload_n 2, 1) := by decide +kernel
theorem dX11_rule_214 : decode cX11_rule 214 = .ok (.iaload, 1) := by decide +kernel
theorem dX11_rule_215 : decode cX11_rule 215 = .ok (.iconst 3, 1) := by decide +kernel
theorem dX11_rule_216 : decode cX11_rule 216 = .ok (.if_icmp .eq 84, 3) := by decide +kernel
theorem dX11_rule_219 : decode cX11_rule 219 = .ok (.aload_n 0, 1) := by decide +kernel
theorem dX11_rule_220 : decode cX11_rule 220 = .ok (.aload_n 0, 1) := by decide +kernel
theorem dX11_rule_221 : decode cX11_rule 221 = .ok (.getfield 144, 3) := by decide +kernel
theorem dX11_rule_224 : decode cX11_rule 224 = .ok (.invokevirtual 295, 3) := by decide +kernel
theorem dX11_rule_227 : decode cX11_rule 227 = .ok (.ifCond .ne 13, 3) := by decide +kernel
theorem dX11_rule_230 : decode cX11_rule 230 = .ok (.aload_n 0, 1) := by decide +kernel
theorem dX11_rule_231 : decode cX11_rule 231 = .ok (.iconst 2, 1) := by decide +kernel
theorem dX11_rule_232 : decode cX11_rule 232 = .ok (.aload_n 0, 1) := by decide +kernel
theorem dX11_rule_233 : decode cX11_rule 233 = .ok (.getfield 144, 3) := by decide +kernel
theorem dX11_rule_236 : decode cX11_rule 236 = .ok (.invokevirtual 261, 3) := by decide +kernel
theorem dX11_rule_239 : decode cX11_rule 239 = .ok (.ireturn, 1) := by decide +kernel
theorem dX11_rule_240 : decode cX11_rule 240 = .ok (.aload_n 0, 1) := by decide +kernel
theorem dX11_rule_241 : decode cX11_rule 241 = .ok (.getfield 84, 3) := by decide +kernel
theorem dX11_rule_244 : decode cX11_rule 244 = .ok (.iload_n 2, 1) := by decide +kernel
theorem dX11_rule_245 : decode cX11_rule 245 = .ok (.aload_n 0, 1) := by decide +kernel
theorem dX11_rule_246 : decode cX11_rule 246 = .ok (.getfield 39, 3) := by decide +kernel
theorem dX11_rule_249 : decode cX11_rule 249 = .ok (.aload_n 0, 1) := by decide +kernel
theorem dX11_rule_250 : decode cX11_rule 250 = .ok (.getfield 247, 3) := by decide +kernel
theorem dX11_rule_253 : decode cX11_rule 253 = .ok (.aload_n 0, 1) := by decide +kernel
theorem dX11_rule_254 : decode cX11_rule 254 = .ok (.aload_n 0, 1) := by decide +kernel
theorem dX11_rule_255 : decode cX11_rule 255 = .ok (.getfield 144, 3) := by decide +kernel
theorem dX11_rule_258 : decode cX11_rule 258 = .ok (.invokevirtual 265, 3) := by decide +kernel
theorem dX11_rule_261 : decode cX11_rule 261 = .ok (.invokestatic 243, 3) := by decide +kernel
theorem dX11_rule_264 : decode cX11_rule 264 = .ok (.iastore, 1) := by decide +kernel
theorem dX11_rule_265 : decode cX11_rule 265 = .ok (.aload_n 0, 1) := by decide +kernel
theorem dX11_rule_266 : decode cX11_rule 266 = .ok (.getfield 87, 3) := by decide +kernel
theorem dX11_rule_269 : decode cX11_rule 269 = .ok (.iload_n 2, 1) := by decide +kernel
theorem dX11_rule_270 : decode cX11_rule 270 = .ok (.aload_n 0, 1) := by decide +kernel
theorem dX11_rule_271 : decode cX11_rule 271 = .ok (.getfield 90, 3) := by decide +kernel
theorem dX11_rule_274 : decode cX11_rule 274 = .ok (.aload_n 0, 1) := by decide +kernel
theorem dX11_rule_275 : decode cX11_rule 275 = .ok (.getfield 269, 3) := by decide +kernel
theorem dX11_rule_278 : decode cX11_rule 278 = .ok (.aload_n 0, 1) := by decide +kernel
theorem dX11_rule_279 : decode cX11_rule 279 = .ok (.aload_n 0, 1) := by decide +kernel
theorem dX11_rule_280 : decode cX11_rule 280 = .ok (.getfield 144, 3) := by decide +kernel
theorem dX11_rule_283 : decode cX11_rule 283 = .ok (.invokevirtual 265, 3) := by decide +kernel
theorem dX11_rule_286 : decode cX11_rule 286 = .ok (.invokestatic 243, 3) := by decide +kernel
theorem dX11_rule_289 : decode cX11_rule 289 = .ok (.iastore, 1) := by decide +kernel
theorem dX11_rule_290 : decode cX11_rule 290 = .ok (.aload_n 0, 1) := by decide +kernel
theorem dX11_rule_291 : decode cX11_rule 291 = .ok (.dup, 1) := by decide +kernel
theorem dX11_rule_292 : decode cX11_rule 292 = .ok (.getfield 144, 3) := by decide +kernel
theorem dX11_rule_295 : decode cX11_rule 295 = .ok (.iconst 1, 1) := by decide +kernel
theorem dX11_rule_296 : decode cX11_rule 296 = .ok (.iadd, 1) := by decide +kernel
theorem dX11_rule_297 : decode cX11_rule 297 = .ok (.putfield 144, 3) := by decide +kernel
theorem dX11_rule_300 : decode cX11_rule 300 = .ok (.aload_n 0, 1) := by decide +kernel
theorem dX11_rule_301 : decode cX11_rule 301 = .ok (.getfield 75, 3) := by decide +kernel
theorem dX11_rule_304 : decode cX11_rule 304 = .ok (.iload_n 2, 1) := by decide +kernel
theorem dX11_rule_305 : decode cX11_rule 305 = .ok (.iaload, 1) := by decide +kernel
theorem dX11_rule_306 : decode cX11_rule 306 = .ok (.ifCond .eq 101, 3) := by decide +kernel
theorem dX11_rule_309 : decode cX11_rule 309 = .ok (.aload_n 0, 1) := by decide +kernel
theorem dX11_rule_310 : decode cX11_rule 310 = .ok (.dup, 1) := by decide +kernel
theorem dX11_rule_311 : decode cX11_rule 311 = .ok (.getfield 144, 3) := by decide +kernel
theorem dX11_rule_314 : decode cX11_rule 314 = .ok (.iconst 1, 1) := by decide +kernel
theorem dX11_rule_315 : decode cX11_rule 315 = .ok (.iadd, 1) := by decide +kernel
theorem dX11_rule_316 : decode cX11_rule 316 = .ok (.putfield 144, 3) := by decide +kernel
theorem dX11_rule_319 : decode cX11_rule 319 = .ok (.aload_n 0, 1) := by decide +kernel
theorem dX11_rule_320 : decode cX11_rule 320 = .ok (.getfield 75, 3) := by decide +kernel
theorem dX11_rule_323 : decode cX11_rule 323 = .ok (.iload_n 2, 1) := by decide +kernel
theorem dX11_rule_324 : decode cX11_rule 324 = .ok (.iaload, 1) := by decide +kernel
theorem dX11_rule_325 : decode cX11_rule 325 = .ok (.iconst 3, 1) := by decide +kernel
theorem dX11_rule_326 : decode cX11_rule 326 = .ok (.if_icmp .ne 26, 3) := by decide +kernel
theorem dX11_rule_329 : decode cX11_rule 329 = .ok (.aload_n 0, 1) := by decide +kernel
theorem dX11_rule_330 : decode cX11_rule 330 = .ok (.aload_n 0, 1) := by decide +kernel
theorem dX11_rule_331 : decode cX11_rule 331 = .ok (.getfield 144, 3) := by decide +kernel
theorem dX11_rule_334 : decode cX11_rule 334 = .ok (.invokevirtual 276, 3) := by decide +kernel
theorem dX11_rule_337 : decode cX11_rule 337 = .ok (.aload_n 0, 1) := by decide +kernel
theorem dX11_rule_338 : decode cX11_rule 338 = .ok (.getfield 78, 3) := by decide +kernel
theorem dX11_rule_341 : decode cX11_rule 341 = .ok (.iload_n 2, 1) := by decide +kernel
theorem dX11_rule_342 : decode cX11_rule 342 = .ok (.iaload, 1) := by decide +kernel
theorem dX11_rule_343 : decode cX11_rule 343 = .ok (.sipush 9999, 3) := by decide +kernel
theorem dX11_rule_346 : decode cX11_rule 346 = .ok (.invokestatic 106, 3) := by decide +kernel
theorem dX11_rule_349 : decode cX11_rule 349 = .ok (.goto 17, 3) := by decide +kernel
theorem dX11_rule_352 : decode cX11_rule 352 = .ok (.aload_n 0, 1) := by decide +kernel
theorem dX11_rule_353 : decode cX11_rule 353 = .ok (.aload_n 0, 1) := by decide +kernel
theorem dX11_rule_354 : decode cX11_rule 354 = .ok (.getfield 144, 3) := by decide +kernel
theorem dX11_rule_357 : decode cX11_rule 357 = .ok (.invokevirtual 276, 3) := by decide +kernel
theorem dX11_rule_360 : decode cX11_rule 360 = .ok (.iconst 1, 1) := by decide +kernel
theorem dX11_rule_361 : decode cX11_rule 361 = .ok (.bipush 14, 2) := by decide +kernel
theorem dX11_rule_363 : decode cX11_rule 363 = .ok (.invokestatic 106, 3) := by decide +kernel
theorem dX11_rule_366 : decode cX11_rule 366 = .ok (.istore 5, 2) := by decide +kernel
theorem dX11_rule_368 : decode cX11_rule 368 = .ok (.iload 5, 2) := by decide +kernel
theorem dX11_rule_370 : decode cX11_rule 370 = .ok (.ifCond .ne 13, 3) := by decide +kernel
theorem dX11_rule_373 : decode cX11_rule 373 = .ok (.aload_n 0, 1) := by decide +kernel
theorem dX11_rule_374 : decode cX11_rule 374 = .ok (.iconst 5, 1) := by decide +kernel
theorem dX11_rule_375 : decode cX11_rule 375 = .ok (.aload_n 0, 1) := by decide +kernel
theorem dX11_rule_376 : decode cX11_rule 376 = .ok (.getfield 144, 3) := by decide +kernel
theorem dX11_rule_379 : decode cX11_rule 379 = .ok (.invokevirtual 261, 3) := by decide +kernel
theorem dX11_rule_382 : decode cX11_rule 382 = .ok (.ireturn, 1) := by decide +kernel
theorem dX11_rule_383 : decode cX11_rule 383 = .ok (.aload_n 0, 1) := by decide +kernel
theorem dX11_rule_384 : decode cX11_rule 384 = .ok (.getfield 81, 3) := by decide +kernel
theorem dX11_rule_387 : decode cX11_rule 387 = .ok (.iload_n 2, 1) := by decide +kernel
theorem dX11_rule_388 : decode cX11_rule 388 = .ok (.aload_n 0, 1) := by decide +kernel
theorem dX11_rule_389 : decode cX11_rule 389 = .ok (.aload_n 0, 1) := by decide +kernel
theorem dX11_rule_390 : decode cX11_rule 390 = .ok (.getfield 144, 3) := by decide +kernel
theorem dX11_rule_393 : decode cX11_rule 393 = .ok (.invokevirtual 276, 3) := by decide +kernel
theorem dX11_rule_396 : decode cX11_rule 396 = .ok (.iastore, 1) := by decide +kernel
theorem dX11_rule_397 : decode cX11_rule 397 = .ok (.aload_n 0, 1) := by decide +kernel
theorem dX11_rule_398 : decode cX11_rule 398 = .ok (.dup, 1) := by decide +kernel
theorem dX11_rule_399 : decode cX11_rule 399 = .ok (.getfield 144, 3) := by decide +kernel
theorem dX11_rule_402 : decode cX11_rule 402 = .ok (.iconst 1, 1) := by decide +kernel
theorem dX11_rule_403 : decode cX11_rule 403 = .ok (.iadd, 1) := by decide +kernel
theorem dX11_rule_404 : decode cX11_rule 404 = .ok (.putfield 144, 3) := by decide +kernel
theorem dX11_rule_407 : decode cX11_rule 407 = .ok (.aload_n 0, 1) := by decide +kernel
theorem dX11_rule_408 : decode cX11_rule 408 = .ok (.dup, 1) := by decide +kernel
theorem dX11_rule_409 : decode cX11_rule 409 = .ok (.getfield 298, 3) := by decide +kernel
theorem dX11_rule_412 : decode cX11_rule 412 = .ok (.iconst 1, 1) := by decide +kernel
theorem dX11_rule_413 : decode cX11_rule 413 = .ok (.iadd, 1) := by decide +kernel
theorem dX11_rule_414 : decode cX11_rule 414 = .ok (.putfield 298, 3) := by decide +kernel
theorem dX11_rule_417 : decode cX11_rule 417 = .ok (.iconst 0, 1) := by decide +kernel
theorem dX11_rule_418 : decode cX11_rule 418 = .ok (.ireturn, 1) := by decide +kernel
theorem dX11_all_0 : decode cX11_all 0 = .ok (.iconst 1, 1) := by decide +kernel
theorem dX11_all_1 : decode cX11_all 1 = .ok (.aload_n 0, 1) := by decide +kernel
theorem dX11_all_2 : decode cX11_all 2 = .ok (.getfield 247, 3) := by decide +kernel
theorem dX11_all_5 : decode cX11_all 5 = .ok (.ishl, 1) := by decide +kernel
theorem dX11_all_6 : decode cX11_all 6 = .ok (.iconst 1, 1) := by decide +kernel
theorem dX11_all_7 : decode cX11_all 7 = .ok (.isub, 1) := by decide +kernel
theorem dX11_all_8 : decode cX11_all 8 = .ok (.ireturn, 1) := by decide +kernel
theorem dX11_tagged_0 : decode cX11_tagged 0 = .ok (.iconst 0, 1) := by decide +kernel
theorem dX11_tagged_1 : decode cX11_tagged 1 = .ok (.istore_n 2, 1) := by decide +kernel
theorem dX11_tagged_2 : decode cX11_tagged 2 = .ok (.iconst 0, 1) := by decide +kernel
theorem dX11_tagged_3 : decode cX11_tagged 3 = .ok (.istore_n 3, 1) := by decide +kernel
theorem dX11_tagged_4 : decode cX11_tagged 4 = .ok (.iload_n 3, 1) := by decide +kernel
theorem dX11_tagged_5 : decode cX11_tagged 5 = .ok (.aload_n 0, 1) := by decide +kernel
theorem dX11_tagged_6 : decode cX11_tagged 6 = .ok (.getfield 247, 3) := by decide +kernel
theorem dX11_tagged_9 : decode cX11_tagged 9 = .ok (.if_icmp .ge 24, 3) := by decide +kernel
theorem dX11_tagged_12 : decode cX11_tagged 12 = .ok (.iload_n 2, 1) := by decide +kernel
theorem dX11_tagged_13 : decode cX11_tagged 13 = .ok (.aload_n 0, 1) := by decide +kernel
theorem dX11_tagged_14 : decode cX11_tagged 14 = .ok (.getfield 51, 3) := by decide +kernel
theorem dX11_tagged_17 : decode cX11_tagged 17 = .ok (.iload_n 3, 1) := by decide +kernel
theorem dX11_tagged_18 : decode cX11_tagged 18 = .ok (.iaload, 1) := by decide +kernel
theorem dX11_tagged_19 : decode cX11_tagged 19 = .ok (.iload_n 1, 1) := by decide +kernel
theorem dX11_tagged_20 : decode cX11_tagged 20 = .ok (.ishr, 1) := by decide +kernel
theorem dX11_tagged_21 : decode cX11_tagged 21 = .ok (.iconst 1, 1) := by decide +kernel
theorem dX11_tagged_22 : decode cX11_tagged 22 = .ok (.iand, 1) := by decide +kernel
theorem dX11_tagged_23 : decode cX11_tagged 23 = .ok (.iload_n 3, 1) := by decide +kernel
theorem dX11_tagged_24 : decode cX11_tagged 24 = .ok (.ishl, 1) := by decide +kernel
theorem dX11_tagged_25 : decode cX11_tagged 25 = .ok (.ior, 1) := by decide +kernel
theorem dX11_tagged_26 : decode cX11_tagged 26 = .ok (.istore_n 2, 1) := by decide +kernel
theorem dX11_tagged_27 : decode cX11_tagged 27 = .ok (.iinc 3 1, 3) := by decide +kernel
theorem dX11_tagged_30 : decode cX11_tagged 30 = .ok (.goto (-26), 3) := by decide +kernel
theorem dX11_tagged_33 : decode cX11_tagged 33 = .ok (.iload_n 2, 1) := by decide +kernel
theorem dX11_tagged_34 : decode cX11_tagged 34 = .ok (.ireturn, 1) := by decide +kernel
theorem dX11_any_0 : decode cX11_any 0 = .ok (.aload_n 0, 1) := by decide +kernel
theorem dX11_any_1 : decode cX11_any 1 = .ok (.iload_n 1, 1) := by decide +kernel
theorem dX11_any_2 : decode cX11_any 2 = .ok (.invokevirtual 301, 3) := by decide +kernel
theorem dX11_any_5 : decode cX11_any 5 = .ok (.istore_n 2, 1) := by decide +kernel
theorem dX11_any_6 : decode cX11_any 6 = .ok (.aload_n 0, 1) := by decide +kernel
theorem dX11_any_7 : decode cX11_any 7 = .ok (.ldc 224, 2) := by decide +kernel
theorem dX11_any_9 : decode cX11_any 9 = .ok (.invokevirtual 160, 3) := by decide +kernel
theorem dX11_any_12 : decode cX11_any 12 = .ok (.ifCond .eq 14, 3) := by decide +kernel
theorem dX11_any_15 : decode cX11_any 15 = .ok (.iload_n 2, 1) := by decide +kernel
theorem dX11_any_16 : decode cX11_any 16 = .ok (.aload_n 0, 1) := by decide +kernel
theorem dX11_any_17 : decode cX11_any 17 = .ok (.iload_n 1, 1) := by decide +kernel
theorem dX11_any_18 : decode cX11_any 18 = .ok (.invokevirtual 301, 3) := by decide +kernel
theorem dX11_any_21 : decode cX11_any 21 = .ok (.ior, 1) := by decide +kernel
theorem dX11_any_22 : decode cX11_any 22 = .ok (.istore_n 2, 1) := by decide +kernel
theorem dX11_any_23 : decode cX11_any 23 = .ok (.goto (-17), 3) := by decide +kernel
theorem dX11_any_26 : decode cX11_any 26 = .ok (.iload_n 2, 1) := by decide +kernel
theorem dX11_any_27 : decode cX11_any 27 = .ok (.ireturn, 1) := by decide +kernel
theorem dX11_both_0 : decode cX11_both 0 = .ok (.aload_n 0, 1) := by decide +kernel
theorem dX11_both_1 : decode cX11_both 1 = .ok (.iload_n 1, 1) := by decide +kernel
theorem dX11_both_2 : decode cX11_both 2 = .ok (.invokevirtual 304, 3) := by decide +kernel
theorem dX11_both_5 : decode cX11_both 5 = .ok (.istore_n 2, 1) := by decide +kernel
theorem dX11_both_6 : decode cX11_both 6 = .ok (.aload_n 0, 1) := by decide +kernel
theorem dX11_both_7 : decode cX11_both 7 = .ok (.ldc 232, 2) := by decide +kernel
theorem dX11_both_9 : decode cX11_both 9 = .ok (.invokevirtual 160, 3) := by decide +kernel
theorem dX11_both_12 : decode cX11_both 12 = .ok (.ifCond .eq 14, 3) := by decide +kernel
theorem dX11_both_15 : decode cX11_both 15 = .ok (.iload_n 2, 1) := by decide +kernel
theorem dX11_both_16 : decode cX11_both 16 = .ok (.aload_n 0, 1) := by decide +kernel
theorem dX11_both_17 : decode cX11_both 17 = .ok (.iload_n 1, 1) := by decide +kernel
theorem dX11_both_18 : decode cX11_both 18 = .ok (.invokevirtual 304, 3) := by decide +kernel
theorem dX11_both_21 : decode cX11_both 21 = .ok (.iand, 1) := by decide +kernel
theorem dX11_both_22 : decode cX11_both 22 = .ok (.istore_n 2, 1) := by decide +kernel
theorem dX11_both_23 : decode cX11_both 23 = .ok (.goto (-17), 3) := by decide +kernel
theorem dX11_both_26 : decode cX11_both 26 = .ok (.iload_n 2, 1) := by decide +kernel
theorem dX11_both_27 : decode cX11_both 27 = .ok (.ireturn, 1) := by decide +kernel
theorem dX11_one_0 : decode cX11_one 0 = .ok (.aload_n 0, 1) := by decide +kernel
theorem dX11_one_1 : decode cX11_one 1 = .ok (.ldc 234, 2) := by decide +kernel
theorem dX11_one_3 : decode cX11_one 3 = .ok (.invokevirtual 160, 3) := by decide +kernel
theorem dX11_one_6 : decode cX11_one 6 = .ok (.ifCond .eq 16, 3) := by decide +kernel
theorem dX11_one_9 : decode cX11_one 9 = .ok (.aload_n 0, 1) := by decide +kernel
theorem dX11_one_10 : decode cX11_one 10 = .ok (.invokevirtual 307, 3) := by decide +kernel
theorem dX11_one_13 : decode cX11_one 13 = .ok (.aload_n 0, 1) := by decide +kernel
theorem dX11_one_14 : decode cX11_one 14 = .ok (.iload_n 1, 1) := by decide +kernel
theorem dX11_one_15 : decode cX11_one 15 = .ok (.invokevirtual 304, 3) := by decide +kernel
theorem dX11_one_18 : decode cX11_one 18 = .ok (.iconst (-1), 1) := by decide +kernel
theorem dX11_one_19 : decode cX11_one 19 = .ok (.ixor, 1) := by decide +kernel
theorem dX11_one_20 : decode cX11_one 20 = .ok (.iand, 1) := by decide +kernel
theorem dX11_one_21 : decode cX11_one 21 = .ok (.ireturn, 1) := by decide +kernel
theorem dX11_one_22 : decode cX11_one 22 = .ok (.aload_n 0, 1) := by decide +kernel
theorem dX11_one_23 : decode cX11_one 23 = .ok (.ldc 236, 2) := by decide +kernel
theorem dX11_one_25 : decode cX11_one 25 = .ok (.invokevirtual 160, 3) := by decide +kernel
theorem dX11_one_28 : decode cX11_one 28 = .ok (.ifCond .eq 21, 3) := by decide +kernel
theorem dX11_one_31 : decode cX11_one 31 = .ok (.aload_n 0, 1) := by decide +kernel
theorem dX11_one_32 : decode cX11_one 32 = .ok (.iload_n 1, 1) := by decide +kernel
theorem dX11_one_33 : decode cX11_one 33 = .ok (.invokevirtual 310, 3) := by decide +kernel
theorem dX11_one_36 : decode cX11_one 36 = .ok (.istore_n 2, 1) := by decide +kernel
theorem dX11_one_37 : decode cX11_one 37 = .ok (.aload_n 0, 1) := by decide +kernel
theorem dX11_one_38 : decode cX11_one 38 = .ok (.dup, 1) := by decide +kernel
theorem dX11_one_39 : decode cX11_one 39 = .ok (.getfield 144, 3) := by decide +kernel
theorem dX11_one_42 : decode cX11_one 42 = .ok (.iconst 1, 1) := by decide +kernel
theorem dX11_one_43 : decode cX11_one 43 = .ok (.iadd, 1) := by decide +kernel
theorem dX11_one_44 : decode cX11_one 44 = .ok (.putfield 144, 3) := by decide +kernel
theorem dX11_one_47 : decode cX11_one 47 = .ok (.iload_n 2, 1) := by decide +kernel
theorem dX11_one_48 : decode cX11_one 48 = .ok (.ireturn, 1) := by decide +kernel
theorem dX11_one_49 : decode cX11_one 49 = .ok (.aload_n 0, 1) := by decide +kernel
theorem dX11_one_50 : decode cX11_one 50 = .ok (.aload_n 0, 1) := by decide +kernel
theorem dX11_one_51 : decode cX11_one 51 = .ok (.getfield 144, 3) := by decide +kernel
theorem dX11_one_54 : decode cX11_one 54 = .ok (.invokevirtual 265, 3) := by decide +kernel
theorem dX11_one_57 : decode cX11_one 57 = .ok (.lstore_n 2, 1) := by decide +kernel
theorem dX11_one_58 : decode cX11_one 58 = .ok (.aload_n 0, 1) := by decide +kernel
theorem dX11_one_59 : decode cX11_one 59 = .ok (.dup, 1) := by decide +kernel
theorem dX11_one_60 : decode cX11_one 60 = .ok (.getfield 144, 3) := by decide +kernel
theorem dX11_one_63 : decode cX11_one 63 = .ok (.iconst 1, 1) := by decide +kernel
theorem dX11_one_64 : decode cX11_one 64 = .ok (.iadd, 1) := by decide +kernel
theorem dX11_one_65 : decode cX11_one 65 = .ok (.putfield 144, 3) := by decide +kernel
theorem dX11_one_68 : decode cX11_one 68 = .ok (.aload_n 0, 1) := by decide +kernel
theorem dX11_one_69 : decode cX11_one 69 = .ok (.getfield 39, 3) := by decide +kernel
theorem dX11_one_72 : decode cX11_one 72 = .ok (.iload_n 1, 1) := by decide +kernel
theorem dX11_one_73 : decode cX11_one 73 = .ok (.lload_n 2, 1) := by decide +kernel
theorem dX11_one_74 : decode cX11_one 74 = .ok (.invokestatic 243, 3) := by decide +kernel
theorem dX11_one_77 : decode cX11_one 77 = .ok (.istore 4, 2) := by decide +kernel
theorem dX11_one_79 : decode cX11_one 79 = .ok (.iload 4, 2) := by decide +kernel
theorem dX11_one_81 : decode cX11_one 81 = .ok (.iconst (-1), 1) := by decide +kernel
theorem dX11_one_82 : decode cX11_one 82 = .ok (.if_icmp .eq 10, 3) := by decide +kernel
theorem dX11_one_85 : decode cX11_one 85 = .ok (.iconst 1, 1) := by decide +kernel
theorem dX11_one_86 : decode cX11_one 86 = .ok (.iload 4, 2) := by decide +kernel
theorem dX11_one_88 : decode cX11_one 88 = .ok (.ishl, 1) := by decide +kernel
theorem dX11_one_89 : decode cX11_one 89 = .ok (.goto 19, 3) := by decide +kernel
theorem dX11_one_92 : decode cX11_one 92 = .ok (.aload_n 0, 1) := by decide +kernel
theorem dX11_one_93 : decode cX11_one 93 = .ok (.aload_n 0, 1) := by decide +kernel
theorem dX11_one_94 : decode cX11_one 94 = .ok (.getfield 90, 3) := by decide +kernel
theorem dX11_one_97 : decode cX11_one 97 = .ok (.aload_n 0, 1) := by decide +kernel
theorem dX11_one_98 : decode cX11_one 98 = .ok (.getfield 269, 3) := by decide +kernel
theorem dX11_one_101 : decode cX11_one 101 = .ok (.lload_n 2, 1) := by decide +kernel
theorem dX11_one_102 : decode cX11_one 102 = .ok (.invokestatic 243, 3) := by decide +kernel
theorem dX11_one_105 : decode cX11_one 105 = .ok (.invokevirtual 313, 3) := by decide +kernel
theorem dX11_one_108 : decode cX11_one 108 = .ok (.ireturn, 1) := by decide +kernel
theorem dX11_forget_0 : decode cX11_forget 0 = .ok (.aload_n 0, 1) := by decide +kernel
theorem dX11_forget_1 : decode cX11_forget 1 = .ok (.iconst 0, 1) := by decide +kernel
theorem dX11_forget_2 : decode cX11_forget 2 = .ok (.putfield 316, 3) := by decide +kernel
theorem dX11_forget_5 : decode cX11_forget 5 = .ok (.aload_n 0, 1) := by decide +kernel
theorem dX11_forget_6 : decode cX11_forget 6 = .ok (.iconst 0, 1) := by decide +kernel
theorem dX11_forget_7 : decode cX11_forget 7 = .ok (.putfield 240, 3) := by decide +kernel
theorem dX11_forget_10 : decode cX11_forget 10 = .ok (.aload_n 0, 1) := by decide +kernel
theorem dX11_forget_11 : decode cX11_forget 11 = .ok (.iconst 0, 1) := by decide +kernel
theorem dX11_forget_12 : decode cX11_forget 12 = .ok (.putfield 247, 3) := by decide +kernel
theorem dX11_forget_15 : decode cX11_forget 15 = .ok (.aload_n 0, 1) := by decide +kernel
theorem dX11_forget_16 : decode cX11_forget 16 = .ok (.iconst 0, 1) := by decide +kernel
theorem dX11_forget_17 : decode cX11_forget 17 = .ok (.putfield 250, 3) := by decide +kernel
theorem dX11_forget_20 : decode cX11_forget 20 = .ok (.aload_n 0, 1) := by decide +kernel
theorem dX11_forget_21 : decode cX11_forget 21 = .ok (.iconst 0, 1) := by decide +kernel
theorem dX11_forget_22 : decode cX11_forget 22 = .ok (.putfield 289, 3) := by decide +kernel
theorem dX11_forget_25 : decode cX11_forget 25 = .ok (.aload_n 0, 1) := by decide +kernel
theorem dX11_forget_26 : decode cX11_forget 26 = .ok (.iconst 0, 1) := by decide +kernel
theorem dX11_forget_27 : decode cX11_forget 27 = .ok (.putfield 298, 3) := by decide +kernel
theorem dX11_forget_30 : decode cX11_forget 30 = .ok (.aload_n 0, 1) := by decide +kernel
theorem dX11_forget_31 : decode cX11_forget 31 = .ok (.iconst 0, 1) := by decide +kernel
theorem dX11_forget_32 : decode cX11_forget 32 = .ok (.putfield 269, 3) := by decide +kernel
theorem dX11_forget_35 : decode cX11_forget 35 = .ok (.aload_n 0, 1) := by decide +kernel
theorem dX11_forget_36 : decode cX11_forget 36 = .ok (.iconst 0, 1) := by decide +kernel
theorem dX11_forget_37 : decode cX11_forget 37 = .ok (.putfield 320, 3) := by decide +kernel
theorem dX11_forget_40 : decode cX11_forget 40 = .ok (.aload_n 0, 1) := by decide +kernel
theorem dX11_forget_41 : decode cX11_forget 41 = .ok (.iconst 0, 1) := by decide +kernel
theorem dX11_forget_42 : decode cX11_forget 42 = .ok (.putfield 323, 3) := by decide +kernel
theorem dX11_forget_45 : decode cX11_forget 45 = .ok (.return_, 1) := by decide +kernel
theorem dX11_compile_0 : decode cX11_compile 0 = .ok (.aload_n 0, 1) := by decide +kernel
theorem dX11_compile_1 : decode cX11_compile 1 = .ok (.iconst 0, 1) := by decide +kernel
theorem dX11_compile_2 : decode cX11_compile 2 = .ok (.putfield 96, 3) := by decide +kernel
theorem dX11_compile_5 : decode cX11_compile 5 = .ok (.aload_n 0, 1) := by decide +kernel
theorem dX11_compile_6 : decode cX11_compile 6 = .ok (.invokevirtual 326, 3) := by decide +kernel
theorem dX11_compile_9 : decode cX11_compile 9 = .ok (.aload_n 0, 1) := by decide +kernel
theorem dX11_compile_10 : decode cX11_compile 10 = .ok (.iconst (-1), 1) := by decide +kernel
theorem dX11_compile_11 : decode cX11_compile 11 = .ok (.putfield 13, 3) := by decide +kernel
theorem dX11_compile_14 : decode cX11_compile 14 = .ok (.aload_n 0, 1) := by decide +kernel
theorem dX11_compile_15 : decode cX11_compile 15 = .ok (.invokevirtual 329, 3) := by decide +kernel
theorem dX11_compile_18 : decode cX11_compile 18 = .ok (.aload_n 0, 1) := by decide +kernel
theorem dX11_compile_19 : decode cX11_compile 19 = .ok (.iconst 0, 1) := by decide +kernel
theorem dX11_compile_20 : decode cX11_compile 20 = .ok (.putfield 144, 3) := by decide +kernel
theorem dX11_compile_23 : decode cX11_compile 23 = .ok (.aload_n 0, 1) := by decide +kernel
theorem dX11_compile_24 : decode cX11_compile 24 = .ok (.invokevirtual 332, 3) := by decide +kernel
theorem dX11_compile_27 : decode cX11_compile 27 = .ok (.ifCond .eq 7, 3) := by decide +kernel
theorem dX11_compile_30 : decode cX11_compile 30 = .ok (.iconst 0, 1) := by decide +kernel
theorem dX11_compile_31 : decode cX11_compile 31 = .ok (.goto 12, 3) := by decide +kernel
theorem dX11_compile_34 : decode cX11_compile 34 = .ok (.aload_n 0, 1) := by decide +kernel
theorem dX11_compile_35 : decode cX11_compile 35 = .ok (.iconst 1, 1) := by decide +kernel
theorem dX11_compile_36 : decode cX11_compile 36 = .ok (.aload_n 0, 1) := by decide +kernel
theorem dX11_compile_37 : decode cX11_compile 37 = .ok (.getfield 144, 3) := by decide +kernel
theorem dX11_compile_40 : decode cX11_compile 40 = .ok (.invokevirtual 261, 3) := by decide +kernel
theorem dX11_compile_43 : decode cX11_compile 43 = .ok (.istore_n 1, 1) := by decide +kernel
theorem dX11_compile_44 : decode cX11_compile 44 = .ok (.aload_n 0, 1) := by decide +kernel
theorem dX11_compile_45 : decode cX11_compile 45 = .ok (.iconst 0, 1) := by decide +kernel
theorem dX11_compile_46 : decode cX11_compile 46 = .ok (.putfield 144, 3) := by decide +kernel
theorem dX11_compile_49 : decode cX11_compile 49 = .ok (.iload_n 1, 1) := by decide +kernel
theorem dX11_compile_50 : decode cX11_compile 50 = .ok (.ifCond .ne 8, 3) := by decide +kernel
theorem dX11_compile_53 : decode cX11_compile 53 = .ok (.aload_n 0, 1) := by decide +kernel
theorem dX11_compile_54 : decode cX11_compile 54 = .ok (.invokevirtual 335, 3) := by decide +kernel
theorem dX11_compile_57 : decode cX11_compile 57 = .ok (.istore_n 1, 1) := by decide +kernel
theorem dX11_compile_58 : decode cX11_compile 58 = .ok (.iconst 0, 1) := by decide +kernel
theorem dX11_compile_59 : decode cX11_compile 59 = .ok (.istore_n 2, 1) := by decide +kernel
theorem dX11_compile_60 : decode cX11_compile 60 = .ok (.iload_n 2, 1) := by decide +kernel
theorem dX11_compile_61 : decode cX11_compile 61 = .ok (.aload_n 0, 1) := by decide +kernel
theorem dX11_compile_62 : decode cX11_compile 62 = .ok (.getfield 289, 3) := by decide +kernel
theorem dX11_compile_65 : decode cX11_compile 65 = .ok (.if_icmp .ge 39, 3) := by decide +kernel
theorem dX11_compile_68 : decode cX11_compile 68 = .ok (.iload_n 1, 1) := by decide +kernel
theorem dX11_compile_69 : decode cX11_compile 69 = .ok (.ifCond .ne 35, 3) := by decide +kernel
theorem dX11_compile_72 : decode cX11_compile 72 = .ok (.aload_n 0, 1) := by decide +kernel
theorem dX11_compile_73 : decode cX11_compile 73 = .ok (.aload_n 0, 1) := by decide +kernel
theorem dX11_compile_74 : decode cX11_compile 74 = .ok (.getfield 69, 3) := by decide +kernel
theorem dX11_compile_77 : decode cX11_compile 77 = .ok (.iload_n 2, 1) := by decide +kernel
theorem dX11_compile_78 : decode cX11_compile 78 = .ok (.iaload, 1) := by decide +kernel
theorem dX11_compile_79 : decode cX11_compile 79 = .ok (.putfield 144, 3) := by decide +kernel
theorem dX11_compile_82 : decode cX11_compile 82 = .ok (.aload_n 0, 1) := by decide +kernel
theorem dX11_compile_83 : decode cX11_compile 83 = .ok (.getfield 66, 3) := by decide +kernel
theorem dX11_compile_86 : decode cX11_compile 86 = .ok (.iload_n 2, 1) := by decide +kernel
theorem dX11_compile_87 : decode cX11_compile 87 = .ok (.aload_n 0, 1) := by decide +kernel
theorem dX11_compile_88 : decode cX11_compile 88 = .ok (.aload_n 0, 1) := by decide +kernel
theorem dX11_compile_89 : decode cX11_compile 89 = .ok (.getfield 72, 3) := by decide +kernel
theorem dX11_compile_92 : decode cX11_compile 92 = .ok (.iload_n 2, 1) := by decide +kernel
theorem dX11_compile_93 : decode cX11_compile 93 = .ok (.iaload, 1) := by decide +kernel
theorem dX11_compile_94 : decode cX11_compile 94 = .ok (.invokevirtual 310, 3) := by decide +kernel
theorem dX11_compile_97 : decode cX11_compile 97 = .ok (.iastore, 1) := by decide +kernel
theorem dX11_compile_98 : decode cX11_compile 98 = .ok (.iinc 2 1, 3) := by decide +kernel
theorem dX11_compile_101 : decode cX11_compile 101 = .ok (.goto (-41), 3) := by decide +kernel
theorem dX11_compile_104 : decode cX11_compile 104 = .ok (.aload_n 0, 1) := by decide +kernel
theorem dX11_compile_105 : decode cX11_compile 105 = .ok (.iconst 0, 1) := by decide +kernel
theorem dX11_compile_106 : decode cX11_compile 106 = .ok (.putfield 99, 3) := by decide +kernel
theorem dX11_compile_109 : decode cX11_compile 109 = .ok (.aload_n 0, 1) := by decide +kernel
theorem dX11_compile_110 : decode cX11_compile 110 = .ok (.iload_n 1, 1) := by decide +kernel
theorem dX11_compile_111 : decode cX11_compile 111 = .ok (.ifCond .ne 7, 3) := by decide +kernel
theorem dX11_compile_114 : decode cX11_compile 114 = .ok (.iconst 1, 1) := by decide +kernel
theorem dX11_compile_115 : decode cX11_compile 115 = .ok (.goto 4, 3) := by decide +kernel
theorem dX11_compile_118 : decode cX11_compile 118 = .ok (.iconst 0, 1) := by decide +kernel
theorem dX11_compile_119 : decode cX11_compile 119 = .ok (.putfield 316, 3) := by decide +kernel
theorem dX11_compile_122 : decode cX11_compile 122 = .ok (.iload_n 1, 1) := by decide +kernel
theorem dX11_compile_123 : decode cX11_compile 123 = .ok (.ifCond .eq 7, 3) := by decide +kernel
theorem dX11_compile_126 : decode cX11_compile 126 = .ok (.aload_n 0, 1) := by decide +kernel
theorem dX11_compile_127 : decode cX11_compile 127 = .ok (.invokevirtual 326, 3) := by decide +kernel
theorem dX11_compile_130 : decode cX11_compile 130 = .ok (.iload_n 1, 1) := by decide +kernel
theorem dX11_compile_131 : decode cX11_compile 131 = .ok (.ireturn, 1) := by decide +kernel
theorem dX11_errorAt_0 : decode cX11_errorAt 0 = .ok (.aload_n 0, 1) := by decide +kernel
theorem dX11_errorAt_1 : decode cX11_errorAt 1 = .ok (.iconst 0, 1) := by decide +kernel
theorem dX11_errorAt_2 : decode cX11_errorAt 2 = .ok (.putfield 96, 3) := by decide +kernel
theorem dX11_errorAt_5 : decode cX11_errorAt 5 = .ok (.aload_n 0, 1) := by decide +kernel
theorem dX11_errorAt_6 : decode cX11_errorAt 6 = .ok (.getfield 13, 3) := by decide +kernel
theorem dX11_errorAt_9 : decode cX11_errorAt 9 = .ok (.ireturn, 1) := by decide +kernel
theorem dX11_counted_0 : decode cX11_counted 0 = .ok (.bipush 8, 2) := by decide +kernel
theorem dX11_counted_2 : decode cX11_counted 2 = .ok (.newarray .int, 2) := by decide +kernel
theorem dX11_counted_4 : decode cX11_counted 4 = .ok (.dup, 1) := by decide +kernel
theorem dX11_counted_5 : decode cX11_counted 5 = .ok (.iconst 0, 1) := by decide +kernel
theorem dX11_counted_6 : decode cX11_counted 6 = .ok (.aload_n 0, 1) := by decide +kernel
theorem dX11_counted_7 : decode cX11_counted 7 = .ok (.getfield 240, 3) := by decide +kernel
theorem dX11_counted_10 : decode cX11_counted 10 = .ok (.iastore, 1) := by decide +kernel
theorem dX11_counted_11 : decode cX11_counted 11 = .ok (.dup, 1) := by decide +kernel
theorem dX11_counted_12 : decode cX11_counted 12 = .ok (.iconst 1, 1) := by decide +kernel
theorem dX11_counted_13 : decode cX11_counted 13 = .ok (.aload_n 0, 1) := by decide +kernel
theorem dX11_counted_14 : decode cX11_counted 14 = .ok (.getfield 247, 3) := by decide +kernel
theorem dX11_counted_17 : decode cX11_counted 17 = .ok (.iastore, 1) := by decide +kernel
theorem dX11_counted_18 : decode cX11_counted 18 = .ok (.dup, 1) := by decide +kernel
theorem dX11_counted_19 : decode cX11_counted 19 = .ok (.iconst 2, 1) := by decide +kernel
theorem dX11_counted_20 : decode cX11_counted 20 = .ok (.aload_n 0, 1) := by decide +kernel
theorem dX11_counted_21 : decode cX11_counted 21 = .ok (.getfield 250, 3) := by decide +kernel
theorem dX11_counted_24 : decode cX11_counted 24 = .ok (.iastore, 1) := by decide +kernel
theorem dX11_counted_25 : decode cX11_counted 25 = .ok (.dup, 1) := by decide +kernel
theorem dX11_counted_26 : decode cX11_counted 26 = .ok (.iconst 3, 1) := by decide +kernel
theorem dX11_counted_27 : decode cX11_counted 27 = .ok (.aload_n 0, 1) := by decide +kernel
theorem dX11_counted_28 : decode cX11_counted 28 = .ok (.getfield 289, 3) := by decide +kernel
theorem dX11_counted_31 : decode cX11_counted 31 = .ok (.iastore, 1) := by decide +kernel
theorem dX11_counted_32 : decode cX11_counted 32 = .ok (.dup, 1) := by decide +kernel
theorem dX11_counted_33 : decode cX11_counted 33 = .ok (.iconst 4, 1) := by decide +kernel
theorem dX11_counted_34 : decode cX11_counted 34 = .ok (.aload_n 0, 1) := by decide +kernel
theorem dX11_counted_35 : decode cX11_counted 35 = .ok (.getfield 298, 3) := by decide +kernel
theorem dX11_counted_38 : decode cX11_counted 38 = .ok (.iastore, 1) := by decide +kernel
theorem dX11_counted_39 : decode cX11_counted 39 = .ok (.dup, 1) := by decide +kernel
theorem dX11_counted_40 : decode cX11_counted 40 = .ok (.iconst 5, 1) := by decide +kernel
theorem dX11_counted_41 : decode cX11_counted 41 = .ok (.aload_n 0, 1) := by decide +kernel
theorem dX11_counted_42 : decode cX11_counted 42 = .ok (.getfield 269, 3) := by decide +kernel
theorem dX11_counted_45 : decode cX11_counted 45 = .ok (.iastore, 1) := by decide +kernel
theorem dX11_counted_46 : decode cX11_counted 46 = .ok (.dup, 1) := by decide +kernel
theorem dX11_counted_47 : decode cX11_counted 47 = .ok (.bipush 6, 2) := by decide +kernel
theorem dX11_counted_49 : decode cX11_counted 49 = .ok (.aload_n 0, 1) := by decide +kernel
theorem dX11_counted_50 : decode cX11_counted 50 = .ok (.getfield 320, 3) := by decide +kernel
theorem dX11_counted_53 : decode cX11_counted 53 = .ok (.iastore, 1) := by decide +kernel
theorem dX11_counted_54 : decode cX11_counted 54 = .ok (.dup, 1) := by decide +kernel
theorem dX11_counted_55 : decode cX11_counted 55 = .ok (.bipush 7, 2) := by decide +kernel
theorem dX11_counted_57 : decode cX11_counted 57 = .ok (.aload_n 0, 1) := by decide +kernel
theorem dX11_counted_58 : decode cX11_counted 58 = .ok (.getfield 99, 3) := by decide +kernel
theorem dX11_counted_61 : decode cX11_counted 61 = .ok (.iastore, 1) := by decide +kernel
theorem dX11_counted_62 : decode cX11_counted 62 = .ok (.astore_n 2, 1) := by decide +kernel
theorem dX11_counted_63 : decode cX11_counted 63 = .ok (.aload_n 2, 1) := by decide +kernel
theorem dX11_counted_64 : decode cX11_counted 64 = .ok (.iload_n 1, 1) := by decide +kernel
theorem dX11_counted_65 : decode cX11_counted 65 = .ok (.iaload, 1) := by decide +kernel
theorem dX11_counted_66 : decode cX11_counted 66 = .ok (.ireturn, 1) := by decide +kernel
theorem dX11_count_0 : decode cX11_count 0 = .ok (.aload_n 0, 1) := by decide +kernel
theorem dX11_count_1 : decode cX11_count 1 = .ok (.iconst 0, 1) := by decide +kernel
theorem dX11_count_2 : decode cX11_count 2 = .ok (.putfield 96, 3) := by decide +kernel
theorem dX11_count_5 : decode cX11_count 5 = .ok (.iload_n 1, 1) := by decide +kernel
theorem dX11_count_6 : decode cX11_count 6 = .ok (.iconst 0, 1) := by decide +kernel
theorem dX11_count_7 : decode cX11_count 7 = .ok (.bipush 7, 2) := by decide +kernel
theorem dX11_count_9 : decode cX11_count 9 = .ok (.invokestatic 106, 3) := by decide +kernel
theorem dX11_count_12 : decode cX11_count 12 = .ok (.ifCond .eq 11, 3) := by decide +kernel
theorem dX11_count_15 : decode cX11_count 15 = .ok (.aload_n 0, 1) := by decide +kernel
theorem dX11_count_16 : decode cX11_count 16 = .ok (.iload_n 1, 1) := by decide +kernel
theorem dX11_count_17 : decode cX11_count 17 = .ok (.invokevirtual 338, 3) := by decide +kernel
theorem dX11_count_20 : decode cX11_count 20 = .ok (.goto 8, 3) := by decide +kernel
theorem dX11_count_23 : decode cX11_count 23 = .ok (.aload_n 0, 1) := by decide +kernel
theorem dX11_count_24 : decode cX11_count 24 = .ok (.iconst 1, 1) := by decide +kernel
theorem dX11_count_25 : decode cX11_count 25 = .ok (.invokevirtual 102, 3) := by decide +kernel
theorem dX11_count_28 : decode cX11_count 28 = .ok (.ireturn, 1) := by decide +kernel
theorem dX11_test_0 : decode cX11_test 0 = .ok (.aload_n 0, 1) := by decide +kernel
theorem dX11_test_1 : decode cX11_test 1 = .ok (.iconst 0, 1) := by decide +kernel
theorem dX11_test_2 : decode cX11_test 2 = .ok (.putfield 96, 3) := by decide +kernel
theorem dX11_test_5 : decode cX11_test 5 = .ok (.aload_n 0, 1) := by decide +kernel
theorem dX11_test_6 : decode cX11_test 6 = .ok (.iconst (-1), 1) := by decide +kernel
theorem dX11_test_7 : decode cX11_test 7 = .ok (.putfield 13, 3) := by decide +kernel
theorem dX11_test_10 : decode cX11_test 10 = .ok (.aload_n 0, 1) := by decide +kernel
theorem dX11_test_11 : decode cX11_test 11 = .ok (.iconst 0, 1) := by decide +kernel
theorem dX11_test_12 : decode cX11_test 12 = .ok (.putfield 323, 3) := by decide +kernel
theorem dX11_test_15 : decode cX11_test 15 = .ok (.aload_n 0, 1) := by decide +kernel
theorem dX11_test_16 : decode cX11_test 16 = .ok (.invokevirtual 329, 3) := by decide +kernel
theorem dX11_test_19 : decode cX11_test 19 = .ok (.aload_n 0, 1) := by decide +kernel
theorem dX11_test_20 : decode cX11_test 20 = .ok (.iconst 0, 1) := by decide +kernel
theorem dX11_test_21 : decode cX11_test 21 = .ok (.putfield 144, 3) := by decide +kernel
theorem dX11_test_24 : decode cX11_test 24 = .ok (.aload_n 0, 1) := by decide +kernel
theorem dX11_test_25 : decode cX11_test 25 = .ok (.invokevirtual 200, 3) := by decide +kernel
theorem dX11_test_28 : decode cX11_test 28 = .ok (.ifCond .eq 19, 3) := by decide +kernel
theorem dX11_test_31 : decode cX11_test 31 = .ok (.aload_n 0, 1) := by decide +kernel
theorem dX11_test_32 : decode cX11_test 32 = .ok (.getfield 17, 3) := by decide +kernel
theorem dX11_test_35 : decode cX11_test 35 = .ok (.aload_n 0, 1) := by decide +kernel
theorem dX11_test_36 : decode cX11_test 36 = .ok (.getfield 144, 3) := by decide +kernel
theorem dX11_test_39 : decode cX11_test 39 = .ok (.iaload, 1) := by decide +kernel
theorem dX11_test_40 : decode cX11_test 40 = .ok (.ifCond .ne 7, 3) := by decide +kernel
theorem dX11_test_43 : decode cX11_test 43 = .ok (.iconst 0, 1) := by decide +kernel
theorem dX11_test_44 : decode cX11_test 44 = .ok (.goto 12, 3) := by decide +kernel
theorem dX11_test_47 : decode cX11_test 47 = .ok (.aload_n 0, 1) := by decide +kernel
theorem dX11_test_48 : decode cX11_test 48 = .ok (.iconst 1, 1) := by decide +kernel
theorem dX11_test_49 : decode cX11_test 49 = .ok (.aload_n 0, 1) := by decide +kernel
theorem dX11_test_50 : decode cX11_test 50 = .ok (.getfield 144, 3) := by decide +kernel
theorem dX11_test_53 : decode cX11_test 53 = .ok (.invokevirtual 261, 3) := by decide +kernel
theorem dX11_test_56 : decode cX11_test 56 = .ok (.istore_n 1, 1) := by decide +kernel
theorem dX11_test_57 : decode cX11_test 57 = .ok (.aload_n 0, 1) := by decide +kernel
theorem dX11_test_58 : decode cX11_test 58 = .ok (.iconst 0, 1) := by decide +kernel
theorem dX11_test_59 : decode cX11_test 59 = .ok (.putfield 144, 3) := by decide +kernel
theorem dX11_test_62 : decode cX11_test 62 = .ok (.iload_n 1, 1) := by decide +kernel
theorem dX11_test_63 : decode cX11_test 63 = .ok (.ifCond .ne 8, 3) := by decide +kernel
theorem dX11_test_66 : decode cX11_test 66 = .ok (.aload_n 0, 1) := by decide +kernel
theorem dX11_test_67 : decode cX11_test 67 = .ok (.invokevirtual 292, 3) := by decide +kernel
theorem dX11_test_70 : decode cX11_test 70 = .ok (.istore_n 1, 1) := by decide +kernel
theorem dX11_test_71 : decode cX11_test 71 = .ok (.aload_n 0, 1) := by decide +kernel
theorem dX11_test_72 : decode cX11_test 72 = .ok (.iconst 0, 1) := by decide +kernel
theorem dX11_test_73 : decode cX11_test 73 = .ok (.putfield 144, 3) := by decide +kernel
theorem dX11_test_76 : decode cX11_test 76 = .ok (.iload_n 1, 1) := by decide +kernel
theorem dX11_test_77 : decode cX11_test 77 = .ok (.ifCond .ne 15, 3) := by decide +kernel
theorem dX11_test_80 : decode cX11_test 80 = .ok (.aload_n 0, 1) := by decide +kernel
theorem dX11_test_81 : decode cX11_test 81 = .ok (.aload_n 0, 1) := by decide +kernel
theorem dX11_test_82 : decode cX11_test 82 = .ok (.aload_n 0, 1) := by decide +kernel
theorem dX11_test_83 : decode cX11_test 83 = .ok (.getfield 247, 3) := by decide +kernel
theorem dX11_test_86 : decode cX11_test 86 = .ok (.invokevirtual 310, 3) := by decide +kernel
theorem dX11_test_89 : decode cX11_test 89 = .ok (.putfield 323, 3) := by decide +kernel
theorem dX11_test_92 : decode cX11_test 92 = .ok (.aload_n 0, 1) := by decide +kernel
theorem dX11_test_93 : decode cX11_test 93 = .ok (.iconst 0, 1) := by decide +kernel
theorem dX11_test_94 : decode cX11_test 94 = .ok (.putfield 99, 3) := by decide +kernel
theorem dX11_test_97 : decode cX11_test 97 = .ok (.iload_n 1, 1) := by decide +kernel
theorem dX11_test_98 : decode cX11_test 98 = .ok (.ireturn, 1) := by decide +kernel
theorem dX11_suited_0 : decode cX11_suited 0 = .ok (.aload_n 0, 1) := by decide +kernel
theorem dX11_suited_1 : decode cX11_suited 1 = .ok (.iconst 0, 1) := by decide +kernel
theorem dX11_suited_2 : decode cX11_suited 2 = .ok (.putfield 96, 3) := by decide +kernel
theorem dX11_suited_5 : decode cX11_suited 5 = .ok (.aload_n 0, 1) := by decide +kernel
theorem dX11_suited_6 : decode cX11_suited 6 = .ok (.getfield 323, 3) := by decide +kernel
theorem dX11_suited_9 : decode cX11_suited 9 = .ok (.ireturn, 1) := by decide +kernel
theorem dX11_foodTold_0 : decode cX11_foodTold 0 = .ok (.iload_n 2, 1) := by decide +kernel
theorem dX11_foodTold_1 : decode cX11_foodTold 1 = .ok (.ifCond .ne 12, 3) := by decide +kernel
theorem dX11_foodTold_4 : decode cX11_foodTold 4 = .ok (.aload_n 0, 1) := by decide +kernel
theorem dX11_foodTold_5 : decode cX11_foodTold 5 = .ok (.getfield 30, 3) := by decide +kernel
theorem dX11_foodTold_8 : decode cX11_foodTold 8 = .ok (.iload_n 1, 1) := by decide +kernel
theorem dX11_foodTold_9 : decode cX11_foodTold 9 = .ok (.iaload, 1) := by decide +kernel
theorem dX11_foodTold_10 : decode cX11_foodTold 10 = .ok (.goto 23, 3) := by decide +kernel
theorem dX11_foodTold_13 : decode cX11_foodTold 13 = .ok (.iload_n 2, 1) := by decide +kernel
theorem dX11_foodTold_14 : decode cX11_foodTold 14 = .ok (.iconst 1, 1) := by decide +kernel
theorem dX11_foodTold_15 : decode cX11_foodTold 15 = .ok (.if_icmp .ne 12, 3) := by decide +kernel
theorem dX11_foodTold_18 : decode cX11_foodTold 18 = .ok (.aload_n 0, 1) := by decide +kernel
theorem dX11_foodTold_19 : decode cX11_foodTold 19 = .ok (.getfield 33, 3) := by decide +kernel
theorem dX11_foodTold_22 : decode cX11_foodTold 22 = .ok (.iload_n 1, 1) := by decide +kernel
theorem dX11_foodTold_23 : decode cX11_foodTold 23 = .ok (.iaload, 1) := by decide +kernel
theorem dX11_foodTold_24 : decode cX11_foodTold 24 = .ok (.goto 9, 3) := by decide +kernel
theorem dX11_foodTold_27 : decode cX11_foodTold 27 = .ok (.aload_n 0, 1) := by decide +kernel
theorem dX11_foodTold_28 : decode cX11_foodTold 28 = .ok (.getfield 36, 3) := by decide +kernel
theorem dX11_foodTold_31 : decode cX11_foodTold 31 = .ok (.iload_n 1, 1) := by decide +kernel
theorem dX11_foodTold_32 : decode cX11_foodTold 32 = .ok (.iaload, 1) := by decide +kernel
theorem dX11_foodTold_33 : decode cX11_foodTold 33 = .ok (.ireturn, 1) := by decide +kernel
theorem dX11_food__0 : decode cX11_food_ 0 = .ok (.aload_n 0, 1) := by decide +kernel
theorem dX11_food__1 : decode cX11_food_ 1 = .ok (.iconst 0, 1) := by decide +kernel
theorem dX11_food__2 : decode cX11_food_ 2 = .ok (.putfield 96, 3) := by decide +kernel
theorem dX11_food__5 : decode cX11_food_ 5 = .ok (.iload_n 1, 1) := by decide +kernel
theorem dX11_food__6 : decode cX11_food_ 6 = .ok (.iconst 0, 1) := by decide +kernel
theorem dX11_food__7 : decode cX11_food_ 7 = .ok (.aload_n 0, 1) := by decide +kernel
theorem dX11_food__8 : decode cX11_food_ 8 = .ok (.getfield 240, 3) := by decide +kernel
theorem dX11_food__11 : decode cX11_food_ 11 = .ok (.iconst 1, 1) := by decide +kernel
theorem dX11_food__12 : decode cX11_food_ 12 = .ok (.isub, 1) := by decide +kernel
theorem dX11_food__13 : decode cX11_food_ 13 = .ok (.invokestatic 106, 3) := by decide +kernel
theorem dX11_food__16 : decode cX11_food_ 16 = .ok (.ifCond .eq 21, 3) := by decide +kernel
theorem dX11_food__19 : decode cX11_food_ 19 = .ok (.iload_n 2, 1) := by decide +kernel
theorem dX11_food__20 : decode cX11_food_ 20 = .ok (.iconst 0, 1) := by decide +kernel
theorem dX11_food__21 : decode cX11_food_ 21 = .ok (.iconst 2, 1) := by decide +kernel
theorem dX11_food__22 : decode cX11_food_ 22 = .ok (.invokestatic 106, 3) := by decide +kernel
theorem dX11_food__25 : decode cX11_food_ 25 = .ok (.ifCond .eq 12, 3) := by decide +kernel
theorem dX11_food__28 : decode cX11_food_ 28 = .ok (.aload_n 0, 1) := by decide +kernel
theorem dX11_food__29 : decode cX11_food_ 29 = .ok (.iload_n 1, 1) := by decide +kernel
theorem dX11_food__30 : decode cX11_food_ 30 = .ok (.iload_n 2, 1) := by decide +kernel
theorem dX11_food__31 : decode cX11_food_ 31 = .ok (.invokevirtual 341, 3) := by decide +kernel
theorem dX11_food__34 : decode cX11_food_ 34 = .ok (.goto 8, 3) := by decide +kernel
theorem dX11_food__37 : decode cX11_food_ 37 = .ok (.aload_n 0, 1) := by decide +kernel
theorem dX11_food__38 : decode cX11_food_ 38 = .ok (.iconst 1, 1) := by decide +kernel
theorem dX11_food__39 : decode cX11_food_ 39 = .ok (.invokevirtual 102, 3) := by decide +kernel
theorem dX11_food__42 : decode cX11_food_ 42 = .ok (.ireturn, 1) := by decide +kernel
theorem dX11_energyOf_0 : decode cX11_energyOf 0 = .ok (.aload_n 0, 1) := by decide +kernel
theorem dX11_energyOf_1 : decode cX11_energyOf 1 = .ok (.getfield 45, 3) := by decide +kernel
theorem dX11_energyOf_4 : decode cX11_energyOf 4 = .ok (.iload_n 1, 1) := by decide +kernel
theorem dX11_energyOf_5 : decode cX11_energyOf 5 = .ok (.laload, 1) := by decide +kernel
theorem dX11_energyOf_6 : decode cX11_energyOf 6 = .ok (.aload_n 0, 1) := by decide +kernel
theorem dX11_energyOf_7 : decode cX11_energyOf 7 = .ok (.getfield 42, 3) := by decide +kernel
theorem dX11_energyOf_10 : decode cX11_energyOf 10 = .ok (.iload_n 1, 1) := by decide +kernel
theorem dX11_energyOf_11 : decode cX11_energyOf 11 = .ok (.iaload, 1) := by decide +kernel
theorem dX11_energyOf_12 : decode cX11_energyOf 12 = .ok (.i2l, 1) := by decide +kernel
theorem dX11_energyOf_13 : decode cX11_energyOf 13 = .ok (.ldiv, 1) := by decide +kernel
theorem dX11_energyOf_14 : decode cX11_energyOf 14 = .ok (.l2i, 1) := by decide +kernel
theorem dX11_energyOf_15 : decode cX11_energyOf 15 = .ok (.ireturn, 1) := by decide +kernel
theorem dX11_priceOf_0 : decode cX11_priceOf 0 = .ok (.aload_n 0, 1) := by decide +kernel
theorem dX11_priceOf_1 : decode cX11_priceOf 1 = .ok (.getfield 48, 3) := by decide +kernel
theorem dX11_priceOf_4 : decode cX11_priceOf 4 = .ok (.iload_n 1, 1) := by decide +kernel
theorem dX11_priceOf_5 : decode cX11_priceOf 5 = .ok (.laload, 1) := by decide +kernel
theorem dX11_priceOf_6 : decode cX11_priceOf 6 = .ok (.aload_n 0, 1) := by decide +kernel
theorem dX11_priceOf_7 : decode cX11_priceOf 7 = .ok (.getfield 42, 3) := by decide +kernel
theorem dX11_priceOf_10 : decode cX11_priceOf 10 = .ok (.iload_n 1, 1) := by decide +kernel
theorem dX11_priceOf_11 : decode cX11_priceOf 11 = .ok (.iaload, 1) := by decide +kernel
theorem dX11_priceOf_12 : decode cX11_priceOf 12 = .ok (.i2l, 1) := by decide +kernel
theorem dX11_priceOf_13 : decode cX11_priceOf 13 = .ok (.ldiv, 1) := by decide +kernel
theorem dX11_priceOf_14 : decode cX11_priceOf 14 = .ok (.l2i, 1) := by decide +kernel
theorem dX11_priceOf_15 : decode cX11_priceOf 15 = .ok (.ireturn, 1) := by decide +kernel
theorem dX11_dishTold_0 : decode cX11_dishTold 0 = .ok (.iload_n 2, 1) := by decide +kernel
theorem dX11_dishTold_1 : decode cX11_dishTold 1 = .ok (.ifCond .ne 12, 3) := by decide +kernel
theorem dX11_dishTold_4 : decode cX11_dishTold 4 = .ok (.aload_n 0, 1) := by decide +kernel
theorem dX11_dishTold_5 : decode cX11_dishTold 5 = .ok (.getfield 42, 3) := by decide +kernel
theorem dX11_dishTold_8 : decode cX11_dishTold 8 = .ok (.iload_n 1, 1) := by decide +kernel
theorem dX11_dishTold_9 : decode cX11_dishTold 9 = .ok (.iaload, 1) := by decide +kernel
theorem dX11_dishTold_10 : decode cX11_dishTold 10 = .ok (.goto 49, 3) := by decide +kernel
theorem dX11_dishTold_13 : decode cX11_dishTold 13 = .ok (.iload_n 2, 1) := by decide +kernel
theorem dX11_dishTold_14 : decode cX11_dishTold 14 = .ok (.iconst 1, 1) := by decide +kernel
theorem dX11_dishTold_15 : decode cX11_dishTold 15 = .ok (.if_icmp .ne 11, 3) := by decide +kernel
theorem dX11_dishTold_18 : decode cX11_dishTold 18 = .ok (.aload_n 0, 1) := by decide +kernel
theorem dX11_dishTold_19 : decode cX11_dishTold 19 = .ok (.iload_n 1, 1) := by decide +kernel
theorem dX11_dishTold_20 : decode cX11_dishTold 20 = .ok (.invokevirtual 344, 3) := by decide +kernel
theorem dX11_dishTold_23 : decode cX11_dishTold 23 = .ok (.goto 36, 3) := by decide +kernel
theorem dX11_dishTold_26 : decode cX11_dishTold 26 = .ok (.iload_n 2, 1) := by decide +kernel
theorem dX11_dishTold_27 : decode cX11_dishTold 27 = .ok (.iconst 2, 1) := by decide +kernel
theorem dX11_dishTold_28 : decode cX11_dishTold 28 = .ok (.if_icmp .ne 11, 3) := by decide +kernel
theorem dX11_dishTold_31 : decode cX11_dishTold 31 = .ok (.aload_n 0, 1) := by decide +kernel
theorem dX11_dishTold_32 : decode cX11_dishTold 32 = .ok (.iload_n 1, 1) := by decide +kernel
theorem dX11_dishTold_33 : decode cX11_dishTold 33 = .ok (.invokevirtual 347, 3) := by decide +kernel
theorem dX11_dishTold_36 : decode cX11_dishTold 36 = .ok (.goto 23, 3) := by decide +kernel
theorem dX11_dishTold_39 : decode cX11_dishTold 39 = .ok (.iload_n 2, 1) := by decide +kernel
theorem dX11_dishTold_40 : decode cX11_dishTold 40 = .ok (.iconst 3, 1) := by decide +kernel
theorem dX11_dishTold_41 : decode cX11_dishTold 41 = .ok (.if_icmp .ne 12, 3) := by decide +kernel
theorem dX11_dishTold_44 : decode cX11_dishTold 44 = .ok (.aload_n 0, 1) := by decide +kernel
theorem dX11_dishTold_45 : decode cX11_dishTold 45 = .ok (.getfield 51, 3) := by decide +kernel
theorem dX11_dishTold_48 : decode cX11_dishTold 48 = .ok (.iload_n 1, 1) := by decide +kernel
theorem dX11_dishTold_49 : decode cX11_dishTold 49 = .ok (.iaload, 1) := by decide +kernel
theorem dX11_dishTold_50 : decode cX11_dishTold 50 = .ok (.goto 9, 3) := by decide +kernel
theorem dX11_dishTold_53 : decode cX11_dishTold 53 = .ok (.aload_n 0, 1) := by decide +kernel
theorem dX11_dishTold_54 : decode cX11_dishTold 54 = .ok (.getfield 54, 3) := by decide +kernel
theorem dX11_dishTold_57 : decode cX11_dishTold 57 = .ok (.iload_n 1, 1) := by decide +kernel
theorem dX11_dishTold_58 : decode cX11_dishTold 58 = .ok (.iaload, 1) := by decide +kernel
theorem dX11_dishTold_59 : decode cX11_dishTold 59 = .ok (.ireturn, 1) := by decide +kernel
theorem dX11_dish__0 : decode cX11_dish_ 0 = .ok (.aload_n 0, 1) := by decide +kernel
theorem dX11_dish__1 : decode cX11_dish_ 1 = .ok (.iconst 0, 1) := by decide +kernel
theorem dX11_dish__2 : decode cX11_dish_ 2 = .ok (.putfield 96, 3) := by decide +kernel
theorem dX11_dish__5 : decode cX11_dish_ 5 = .ok (.iload_n 1, 1) := by decide +kernel
theorem dX11_dish__6 : decode cX11_dish_ 6 = .ok (.iconst 0, 1) := by decide +kernel
theorem dX11_dish__7 : decode cX11_dish_ 7 = .ok (.aload_n 0, 1) := by decide +kernel
theorem dX11_dish__8 : decode cX11_dish_ 8 = .ok (.getfield 247, 3) := by decide +kernel
theorem dX11_dish__11 : decode cX11_dish_ 11 = .ok (.iconst 1, 1) := by decide +kernel
theorem dX11_dish__12 : decode cX11_dish_ 12 = .ok (.isub, 1) := by decide +kernel
theorem dX11_dish__13 : decode cX11_dish_ 13 = .ok (.invokestatic 106, 3) := by decide +kernel
theorem dX11_dish__16 : decode cX11_dish_ 16 = .ok (.ifCond .eq 21, 3) := by decide +kernel
theorem dX11_dish__19 : decode cX11_dish_ 19 = .ok (.iload_n 2, 1) := by decide +kernel
theorem dX11_dish__20 : decode cX11_dish_ 20 = .ok (.iconst 0, 1) := by decide +kernel
theorem dX11_dish__21 : decode cX11_dish_ 21 = .ok (.iconst 4, 1) := by decide +kernel
theorem dX11_dish__22 : decode cX11_dish_ 22 = .ok (.invokestatic 106, 3) := by decide +kernel
theorem dX11_dish__25 : decode cX11_dish_ 25 = .ok (.ifCond .eq 12, 3) := by decide +kernel
theorem dX11_dish__28 : decode cX11_dish_ 28 = .ok (.aload_n 0, 1) := by decide +kernel
theorem dX11_dish__29 : decode cX11_dish_ 29 = .ok (.iload_n 1, 1) := by decide +kernel
theorem dX11_dish__30 : decode cX11_dish_ 30 = .ok (.iload_n 2, 1) := by decide +kernel
theorem dX11_dish__31 : decode cX11_dish_ 31 = .ok (.invokevirtual 350, 3) := by decide +kernel
theorem dX11_dish__34 : decode cX11_dish_ 34 = .ok (.goto 8, 3) := by decide +kernel
theorem dX11_dish__37 : decode cX11_dish_ 37 = .ok (.aload_n 0, 1) := by decide +kernel
theorem dX11_dish__38 : decode cX11_dish_ 38 = .ok (.iconst 1, 1) := by decide +kernel
theorem dX11_dish__39 : decode cX11_dish_ 39 = .ok (.invokevirtual 102, 3) := by decide +kernel
theorem dX11_dish__42 : decode cX11_dish_ 42 = .ok (.ireturn, 1) := by decide +kernel
theorem dX11_grams_0 : decode cX11_grams 0 = .ok (.aload_n 0, 1) := by decide +kernel
theorem dX11_grams_1 : decode cX11_grams 1 = .ok (.iconst 0, 1) := by decide +kernel
theorem dX11_grams_2 : decode cX11_grams 2 = .ok (.putfield 96, 3) := by decide +kernel
theorem dX11_grams_5 : decode cX11_grams 5 = .ok (.iload_n 1, 1) := by decide +kernel
theorem dX11_grams_6 : decode cX11_grams 6 = .ok (.iconst 0, 1) := by decide +kernel
theorem dX11_grams_7 : decode cX11_grams 7 = .ok (.aload_n 0, 1) := by decide +kernel
theorem dX11_grams_8 : decode cX11_grams 8 = .ok (.getfield 247, 3) := by decide +kernel
theorem dX11_grams_11 : decode cX11_grams 11 = .ok (.iconst 1, 1) := by decide +kernel
theorem dX11_grams_12 : decode cX11_grams 12 = .ok (.isub, 1) := by decide +kernel
theorem dX11_grams_13 : decode cX11_grams 13 = .ok (.invokestatic 106, 3) := by decide +kernel
theorem dX11_grams_16 : decode cX11_grams 16 = .ok (.ifCond .eq 32, 3) := by decide +kernel
theorem dX11_grams_19 : decode cX11_grams 19 = .ok (.iload_n 2, 1) := by decide +kernel
theorem dX11_grams_20 : decode cX11_grams 20 = .ok (.iconst 0, 1) := by decide +kernel
theorem dX11_grams_21 : decode cX11_grams 21 = .ok (.aload_n 0, 1) := by decide +kernel
theorem dX11_grams_22 : decode cX11_grams 22 = .ok (.getfield 240, 3) := by decide +kernel
theorem dX11_grams_25 : decode cX11_grams 25 = .ok (.iconst 1, 1) := by decide +kernel
theorem dX11_grams_26 : decode cX11_grams 26 = .ok (.isub, 1) := by decide +kernel
theorem dX11_grams_27 : decode cX11_grams 27 = .ok (.invokestatic 106, 3) := by decide +kernel
theorem dX11_grams_30 : decode cX11_grams 30 = .ok (.ifCond .eq 18, 3) := by decide +kernel
theorem dX11_grams_33 : decode cX11_grams 33 = .ok (.aload_n 0, 1) := by decide +kernel
theorem dX11_grams_34 : decode cX11_grams 34 = .ok (.getfield 57, 3) := by decide +kernel
theorem dX11_grams_37 : decode cX11_grams 37 = .ok (.bipush 16, 2) := by decide +kernel
theorem dX11_grams_39 : decode cX11_grams 39 = .ok (.iload_n 1, 1) := by decide +kernel
theorem dX11_grams_40 : decode cX11_grams 40 = .ok (.imul, 1) := by decide +kernel
theorem dX11_grams_41 : decode cX11_grams 41 = .ok (.iload_n 2, 1) := by decide +kernel
theorem dX11_grams_42 : decode cX11_grams 42 = .ok (.iadd, 1) := by decide +kernel
theorem dX11_grams_43 : decode cX11_grams 43 = .ok (.laload, 1) := by decide +kernel
theorem dX11_grams_44 : decode cX11_grams 44 = .ok (.l2i, 1) := by decide +kernel
theorem dX11_grams_45 : decode cX11_grams 45 = .ok (.goto 8, 3) := by decide +kernel
theorem dX11_grams_48 : decode cX11_grams 48 = .ok (.aload_n 0, 1) := by decide +kernel
theorem dX11_grams_49 : decode cX11_grams 49 = .ok (.iconst 1, 1) := by decide +kernel
theorem dX11_grams_50 : decode cX11_grams 50 = .ok (.invokevirtual 102, 3) := by decide +kernel
theorem dX11_grams_53 : decode cX11_grams 53 = .ok (.ireturn, 1) := by decide +kernel
theorem dX11_isChoice_0 : decode cX11_isChoice 0 = .ok (.iload_n 1, 1) := by decide +kernel
theorem dX11_isChoice_1 : decode cX11_isChoice 1 = .ok (.iconst 0, 1) := by decide +kernel
theorem dX11_isChoice_2 : decode cX11_isChoice 2 = .ok (.aload_n 0, 1) := by decide +kernel
theorem dX11_isChoice_3 : decode cX11_isChoice 3 = .ok (.getfield 289, 3) := by decide +kernel
theorem dX11_isChoice_6 : decode cX11_isChoice 6 = .ok (.iconst 1, 1) := by decide +kernel
theorem dX11_isChoice_7 : decode cX11_isChoice 7 = .ok (.isub, 1) := by decide +kernel
theorem dX11_isChoice_8 : decode cX11_isChoice 8 = .ok (.invokestatic 106, 3) := by decide +kernel
theorem dX11_isChoice_11 : decode cX11_isChoice 11 = .ok (.ireturn, 1) := by decide +kernel
theorem dX11_choice_0 : decode cX11_choice 0 = .ok (.aload_n 0, 1) := by decide +kernel
theorem dX11_choice_1 : decode cX11_choice 1 = .ok (.iconst 0, 1) := by decide +kernel
theorem dX11_choice_2 : decode cX11_choice 2 = .ok (.putfield 96, 3) := by decide +kernel
theorem dX11_choice_5 : decode cX11_choice 5 = .ok (.aload_n 0, 1) := by decide +kernel
theorem dX11_choice_6 : decode cX11_choice 6 = .ok (.iload_n 1, 1) := by decide +kernel
theorem dX11_choice_7 : decode cX11_choice 7 = .ok (.invokevirtual 353, 3) := by decide +kernel
theorem dX11_choice_10 : decode cX11_choice 10 = .ok (.ifCond .eq 25, 3) := by decide +kernel
theorem dX11_choice_13 : decode cX11_choice 13 = .ok (.iload_n 2, 1) := by decide +kernel
theorem dX11_choice_14 : decode cX11_choice 14 = .ok (.ifCond .eq 12, 3) := by decide +kernel
theorem dX11_choice_17 : decode cX11_choice 17 = .ok (.aload_n 0, 1) := by decide +kernel
theorem dX11_choice_18 : decode cX11_choice 18 = .ok (.getfield 63, 3) := by decide +kernel
theorem dX11_choice_21 : decode cX11_choice 21 = .ok (.iload_n 1, 1) := by decide +kernel
theorem dX11_choice_22 : decode cX11_choice 22 = .ok (.iaload, 1) := by decide +kernel
theorem dX11_choice_23 : decode cX11_choice 23 = .ok (.goto 17, 3) := by decide +kernel
theorem dX11_choice_26 : decode cX11_choice 26 = .ok (.aload_n 0, 1) := by decide +kernel
theorem dX11_choice_27 : decode cX11_choice 27 = .ok (.getfield 66, 3) := by decide +kernel
theorem dX11_choice_30 : decode cX11_choice 30 = .ok (.iload_n 1, 1) := by decide +kernel
theorem dX11_choice_31 : decode cX11_choice 31 = .ok (.iaload, 1) := by decide +kernel
theorem dX11_choice_32 : decode cX11_choice 32 = .ok (.goto 8, 3) := by decide +kernel
theorem dX11_choice_35 : decode cX11_choice 35 = .ok (.aload_n 0, 1) := by decide +kernel
theorem dX11_choice_36 : decode cX11_choice 36 = .ok (.iconst 1, 1) := by decide +kernel
theorem dX11_choice_37 : decode cX11_choice 37 = .ok (.invokevirtual 102, 3) := by decide +kernel
theorem dX11_choice_40 : decode cX11_choice 40 = .ok (.ireturn, 1) := by decide +kernel
theorem dX11_meant_0 : decode cX11_meant 0 = .ok (.aload_n 0, 1) := by decide +kernel
theorem dX11_meant_1 : decode cX11_meant 1 = .ok (.getfield 75, 3) := by decide +kernel
theorem dX11_meant_4 : decode cX11_meant 4 = .ok (.iload_n 1, 1) := by decide +kernel
theorem dX11_meant_5 : decode cX11_meant 5 = .ok (.iaload, 1) := by decide +kernel
theorem dX11_meant_6 : decode cX11_meant 6 = .ok (.iconst 3, 1) := by decide +kernel
theorem dX11_meant_7 : decode cX11_meant 7 = .ok (.if_icmp .ne 7, 3) := by decide +kernel
theorem dX11_meant_10 : decode cX11_meant 10 = .ok (.iconst 0, 1) := by decide +kernel
theorem dX11_meant_11 : decode cX11_meant 11 = .ok (.goto 34, 3) := by decide +kernel
theorem dX11_meant_14 : decode cX11_meant 14 = .ok (.aload_n 0, 1) := by decide +kernel
theorem dX11_meant_15 : decode cX11_meant 15 = .ok (.getfield 84, 3) := by decide +kernel
theorem dX11_meant_18 : decode cX11_meant 18 = .ok (.iload_n 1, 1) := by decide +kernel
theorem dX11_meant_19 : decode cX11_meant 19 = .ok (.iaload, 1) := by decide +kernel
theorem dX11_meant_20 : decode cX11_meant 20 = .ok (.iconst (-1), 1) := by decide +kernel
theorem dX11_meant_21 : decode cX11_meant 21 = .ok (.if_icmp .eq 14, 3) := by decide +kernel
theorem dX11_meant_24 : decode cX11_meant 24 = .ok (.iconst 1, 1) := by decide +kernel
theorem dX11_meant_25 : decode cX11_meant 25 = .ok (.aload_n 0, 1) := by decide +kernel
theorem dX11_meant_26 : decode cX11_meant 26 = .ok (.getfield 84, 3) := by decide +kernel
theorem dX11_meant_29 : decode cX11_meant 29 = .ok (.iload_n 1, 1) := by decide +kernel
theorem dX11_meant_30 : decode cX11_meant 30 = .ok (.iaload, 1) := by decide +kernel
theorem dX11_meant_31 : decode cX11_meant 31 = .ok (.ishl, 1) := by decide +kernel
theorem dX11_meant_32 : decode cX11_meant 32 = .ok (.goto 13, 3) := by decide +kernel
theorem dX11_meant_35 : decode cX11_meant 35 = .ok (.aload_n 0, 1) := by decide +kernel
theorem dX11_meant_36 : decode cX11_meant 36 = .ok (.aload_n 0, 1) := by decide +kernel
theorem dX11_meant_37 : decode cX11_meant 37 = .ok (.getfield 87, 3) := by decide +kernel
theorem dX11_meant_40 : decode cX11_meant 40 = .ok (.iload_n 1, 1) := by decide +kernel
theorem dX11_meant_41 : decode cX11_meant 41 = .ok (.iaload, 1) := by decide +kernel
theorem dX11_meant_42 : decode cX11_meant 42 = .ok (.invokevirtual 313, 3) := by decide +kernel
theorem dX11_meant_45 : decode cX11_meant 45 = .ok (.ireturn, 1) := by decide +kernel
theorem dX11_ruleTold_0 : decode cX11_ruleTold 0 = .ok (.iload_n 2, 1) := by decide +kernel
theorem dX11_ruleTold_1 : decode cX11_ruleTold 1 = .ok (.ifCond .ne 12, 3) := by decide +kernel
theorem dX11_ruleTold_4 : decode cX11_ruleTold 4 = .ok (.aload_n 0, 1) := by decide +kernel
theorem dX11_ruleTold_5 : decode cX11_ruleTold 5 = .ok (.getfield 75, 3) := by decide +kernel
theorem dX11_ruleTold_8 : decode cX11_ruleTold 8 = .ok (.iload_n 1, 1) := by decide +kernel
theorem dX11_ruleTold_9 : decode cX11_ruleTold 9 = .ok (.iaload, 1) := by decide +kernel
theorem dX11_ruleTold_10 : decode cX11_ruleTold 10 = .ok (.goto 36, 3) := by decide +kernel
theorem dX11_ruleTold_13 : decode cX11_ruleTold 13 = .ok (.iload_n 2, 1) := by decide +kernel
theorem dX11_ruleTold_14 : decode cX11_ruleTold 14 = .ok (.iconst 1, 1) := by decide +kernel
theorem dX11_ruleTold_15 : decode cX11_ruleTold 15 = .ok (.if_icmp .ne 12, 3) := by decide +kernel
theorem dX11_ruleTold_18 : decode cX11_ruleTold 18 = .ok (.aload_n 0, 1) := by decide +kernel
theorem dX11_ruleTold_19 : decode cX11_ruleTold 19 = .ok (.getfield 78, 3) := by decide +kernel
theorem dX11_ruleTold_22 : decode cX11_ruleTold 22 = .ok (.iload_n 1, 1) := by decide +kernel
theorem dX11_ruleTold_23 : decode cX11_ruleTold 23 = .ok (.iaload, 1) := by decide +kernel
theorem dX11_ruleTold_24 : decode cX11_ruleTold 24 = .ok (.goto 22, 3) := by decide +kernel
theorem dX11_ruleTold_27 : decode cX11_ruleTold 27 = .ok (.iload_n 2, 1) := by decide +kernel
theorem dX11_ruleTold_28 : decode cX11_ruleTold 28 = .ok (.iconst 2, 1) := by decide +kernel
theorem dX11_ruleTold_29 : decode cX11_ruleTold 29 = .ok (.if_icmp .ne 12, 3) := by decide +kernel
theorem dX11_ruleTold_32 : decode cX11_ruleTold 32 = .ok (.aload_n 0, 1) := by decide +kernel
theorem dX11_ruleTold_33 : decode cX11_ruleTold 33 = .ok (.getfield 81, 3) := by decide +kernel
theorem dX11_ruleTold_36 : decode cX11_ruleTold 36 = .ok (.iload_n 1, 1) := by decide +kernel
theorem dX11_ruleTold_37 : decode cX11_ruleTold 37 = .ok (.iaload, 1) := by decide +kernel
theorem dX11_ruleTold_38 : decode cX11_ruleTold 38 = .ok (.goto 8, 3) := by decide +kernel
theorem dX11_ruleTold_41 : decode cX11_ruleTold 41 = .ok (.aload_n 0, 1) := by decide +kernel
theorem dX11_ruleTold_42 : decode cX11_ruleTold 42 = .ok (.iload_n 1, 1) := by decide +kernel
theorem dX11_ruleTold_43 : decode cX11_ruleTold 43 = .ok (.invokevirtual 356, 3) := by decide +kernel
theorem dX11_ruleTold_46 : decode cX11_ruleTold 46 = .ok (.ireturn, 1) := by decide +kernel
theorem dX11_rule__0 : decode cX11_rule_ 0 = .ok (.aload_n 0, 1) := by decide +kernel
theorem dX11_rule__1 : decode cX11_rule_ 1 = .ok (.iconst 0, 1) := by decide +kernel
theorem dX11_rule__2 : decode cX11_rule_ 2 = .ok (.putfield 96, 3) := by decide +kernel
theorem dX11_rule__5 : decode cX11_rule_ 5 = .ok (.iload_n 1, 1) := by decide +kernel
theorem dX11_rule__6 : decode cX11_rule_ 6 = .ok (.iconst 0, 1) := by decide +kernel
theorem dX11_rule__7 : decode cX11_rule_ 7 = .ok (.aload_n 0, 1) := by decide +kernel
theorem dX11_rule__8 : decode cX11_rule_ 8 = .ok (.getfield 298, 3) := by decide +kernel
theorem dX11_rule__11 : decode cX11_rule_ 11 = .ok (.iconst 1, 1) := by decide +kernel
theorem dX11_rule__12 : decode cX11_rule_ 12 = .ok (.isub, 1) := by decide +kernel
theorem dX11_rule__13 : decode cX11_rule_ 13 = .ok (.invokestatic 106, 3) := by decide +kernel
theorem dX11_rule__16 : decode cX11_rule_ 16 = .ok (.ifCond .eq 21, 3) := by decide +kernel
theorem dX11_rule__19 : decode cX11_rule_ 19 = .ok (.iload_n 2, 1) := by decide +kernel
theorem dX11_rule__20 : decode cX11_rule_ 20 = .ok (.iconst 0, 1) := by decide +kernel
theorem dX11_rule__21 : decode cX11_rule_ 21 = .ok (.iconst 3, 1) := by decide +kernel
theorem dX11_rule__22 : decode cX11_rule_ 22 = .ok (.invokestatic 106, 3) := by decide +kernel
theorem dX11_rule__25 : decode cX11_rule_ 25 = .ok (.ifCond .eq 12, 3) := by decide +kernel
theorem dX11_rule__28 : decode cX11_rule_ 28 = .ok (.aload_n 0, 1) := by decide +kernel
theorem dX11_rule__29 : decode cX11_rule_ 29 = .ok (.iload_n 1, 1) := by decide +kernel
theorem dX11_rule__30 : decode cX11_rule_ 30 = .ok (.iload_n 2, 1) := by decide +kernel
theorem dX11_rule__31 : decode cX11_rule_ 31 = .ok (.invokevirtual 359, 3) := by decide +kernel
theorem dX11_rule__34 : decode cX11_rule_ 34 = .ok (.goto 8, 3) := by decide +kernel
theorem dX11_rule__37 : decode cX11_rule_ 37 = .ok (.aload_n 0, 1) := by decide +kernel
theorem dX11_rule__38 : decode cX11_rule_ 38 = .ok (.iconst 1, 1) := by decide +kernel
theorem dX11_rule__39 : decode cX11_rule_ 39 = .ok (.invokevirtual 102, 3) := by decide +kernel
theorem dX11_rule__42 : decode cX11_rule_ 42 = .ok (.ireturn, 1) := by decide +kernel
theorem dX11_dishAt_0 : decode cX11_dishAt 0 = .ok (.aload_n 0, 1) := by decide +kernel
theorem dX11_dishAt_1 : decode cX11_dishAt 1 = .ok (.getfield 93, 3) := by decide +kernel
theorem dX11_dishAt_4 : decode cX11_dishAt 4 = .ok (.bipush 8, 2) := by decide +kernel
theorem dX11_dishAt_6 : decode cX11_dishAt 6 = .ok (.iload_n 1, 1) := by decide +kernel
theorem dX11_dishAt_7 : decode cX11_dishAt 7 = .ok (.imul, 1) := by decide +kernel
theorem dX11_dishAt_8 : decode cX11_dishAt 8 = .ok (.iload_n 2, 1) := by decide +kernel
theorem dX11_dishAt_9 : decode cX11_dishAt 9 = .ok (.iadd, 1) := by decide +kernel
theorem dX11_dishAt_10 : decode cX11_dishAt 10 = .ok (.iaload, 1) := by decide +kernel
theorem dX11_dishAt_11 : decode cX11_dishAt 11 = .ok (.ireturn, 1) := by decide +kernel
theorem dX11_isMeant_0 : decode cX11_isMeant 0 = .ok (.aload_n 0, 1) := by decide +kernel
theorem dX11_isMeant_1 : decode cX11_isMeant 1 = .ok (.iload_n 2, 1) := by decide +kernel
theorem dX11_isMeant_2 : decode cX11_isMeant 2 = .ok (.iload_n 3, 1) := by decide +kernel
theorem dX11_isMeant_3 : decode cX11_isMeant 3 = .ok (.invokevirtual 362, 3) := by decide +kernel
theorem dX11_isMeant_6 : decode cX11_isMeant 6 = .ok (.iconst (-1), 1) := by decide +kernel
theorem dX11_isMeant_7 : decode cX11_isMeant 7 = .ok (.if_icmp .eq 21, 3) := by decide +kernel
theorem dX11_isMeant_10 : decode cX11_isMeant 10 = .ok (.iload_n 1, 1) := by decide +kernel
theorem dX11_isMeant_11 : decode cX11_isMeant 11 = .ok (.aload_n 0, 1) := by decide +kernel
theorem dX11_isMeant_12 : decode cX11_isMeant 12 = .ok (.iload_n 2, 1) := by decide +kernel
theorem dX11_isMeant_13 : decode cX11_isMeant 13 = .ok (.iload_n 3, 1) := by decide +kernel
theorem dX11_isMeant_14 : decode cX11_isMeant 14 = .ok (.invokevirtual 362, 3) := by decide +kernel
theorem dX11_isMeant_17 : decode cX11_isMeant 17 = .ok (.ishr, 1) := by decide +kernel
theorem dX11_isMeant_18 : decode cX11_isMeant 18 = .ok (.iconst 1, 1) := by decide +kernel
theorem dX11_isMeant_19 : decode cX11_isMeant 19 = .ok (.iand, 1) := by decide +kernel
theorem dX11_isMeant_20 : decode cX11_isMeant 20 = .ok (.iconst 1, 1) := by decide +kernel
theorem dX11_isMeant_21 : decode cX11_isMeant 21 = .ok (.if_icmp .ne 7, 3) := by decide +kernel
theorem dX11_isMeant_24 : decode cX11_isMeant 24 = .ok (.iconst 1, 1) := by decide +kernel
theorem dX11_isMeant_25 : decode cX11_isMeant 25 = .ok (.goto 4, 3) := by decide +kernel
theorem dX11_isMeant_28 : decode cX11_isMeant 28 = .ok (.iconst 0, 1) := by decide +kernel
theorem dX11_isMeant_29 : decode cX11_isMeant 29 = .ok (.ireturn, 1) := by decide +kernel
theorem dX11_meantIn_0 : decode cX11_meantIn 0 = .ok (.iconst 0, 1) := by decide +kernel
theorem dX11_meantIn_1 : decode cX11_meantIn 1 = .ok (.istore 4, 2) := by decide +kernel
theorem dX11_meantIn_3 : decode cX11_meantIn 3 = .ok (.iload_n 2, 1) := by decide +kernel
theorem dX11_meantIn_4 : decode cX11_meantIn 4 = .ok (.istore 5, 2) := by decide +kernel
theorem dX11_meantIn_6 : decode cX11_meantIn 6 = .ok (.iload 5, 2) := by decide +kernel
theorem dX11_meantIn_8 : decode cX11_meantIn 8 = .ok (.iload_n 3, 1) := by decide +kernel
theorem dX11_meantIn_9 : decode cX11_meantIn 9 = .ok (.if_icmp .ge 49, 3) := by decide +kernel
theorem dX11_meantIn_12 : decode cX11_meantIn 12 = .ok (.iconst 0, 1) := by decide +kernel
theorem dX11_meantIn_13 : decode cX11_meantIn 13 = .ok (.istore 6, 2) := by decide +kernel
theorem dX11_meantIn_15 : decode cX11_meantIn 15 = .ok (.iload 6, 2) := by decide +kernel
theorem dX11_meantIn_17 : decode cX11_meantIn 17 = .ok (.aload_n 0, 1) := by decide +kernel
theorem dX11_meantIn_18 : decode cX11_meantIn 18 = .ok (.getfield 289, 3) := by decide +kernel
theorem dX11_meantIn_21 : decode cX11_meantIn 21 = .ok (.if_icmp .ge 31, 3) := by decide +kernel
theorem dX11_meantIn_24 : decode cX11_meantIn 24 = .ok (.iload 4, 2) := by decide +kernel
theorem dX11_meantIn_26 : decode cX11_meantIn 26 = .ok (.aload_n 0, 1) := by decide +kernel
theorem dX11_meantIn_27 : decode cX11_meantIn 27 = .ok (.iload_n 1, 1) := by decide +kernel
theorem dX11_meantIn_28 : decode cX11_meantIn 28 = .ok (.iload 5, 2) := by decide +kernel
theorem dX11_meantIn_30 : decode cX11_meantIn 30 = .ok (.iload 6, 2) := by decide +kernel
theorem dX11_meantIn_32 : decode cX11_meantIn 32 = .ok (.invokevirtual 365, 3) := by decide +kernel
theorem dX11_meantIn_35 : decode cX11_meantIn 35 = .ok (.ifCond .eq 7, 3) := by decide +kernel
theorem dX11_meantIn_38 : decode cX11_meantIn 38 = .ok (.iconst 1, 1) := by decide +kernel
theorem dX11_meantIn_39 : decode cX11_meantIn 39 = .ok (.goto 4, 3) := by decide +kernel
theorem dX11_meantIn_42 : decode cX11_meantIn 42 = .ok (.iconst 0, 1) := by decide +kernel
theorem dX11_meantIn_43 : decode cX11_meantIn 43 = .ok (.iadd, 1) := by decide +kernel
theorem dX11_meantIn_44 : decode cX11_meantIn 44 = .ok (.istore 4, 2) := by decide +kernel
theorem dX11_meantIn_46 : decode cX11_meantIn 46 = .ok (.iinc 6 1, 3) := by decide +kernel
theorem dX11_meantIn_49 : decode cX11_meantIn 49 = .ok (.goto (-34), 3) := by decide +kernel
theorem dX11_meantIn_52 : decode cX11_meantIn 52 = .ok (.iinc 5 1, 3) := by decide +kernel
theorem dX11_meantIn_55 : decode cX11_meantIn 55 = .ok (.goto (-49), 3) := by decide +kernel
theorem dX11_meantIn_58 : decode cX11_meantIn 58 = .ok (.iload 4, 2) := by decide +kernel
theorem dX11_meantIn_60 : decode cX11_meantIn 60 = .ok (.ireturn, 1) := by decide +kernel
theorem dX11_sumOf_0 : decode cX11_sumOf 0 = .ok (.iconst 0, 1) := by decide +kernel
theorem dX11_sumOf_1 : decode cX11_sumOf 1 = .ok (.istore_n 3, 1) := by decide +kernel
theorem dX11_sumOf_2 : decode cX11_sumOf 2 = .ok (.iconst 0, 1) := by decide +kernel
theorem dX11_sumOf_3 : decode cX11_sumOf 3 = .ok (.istore 4, 2) := by decide +kernel
theorem dX11_sumOf_5 : decode cX11_sumOf 5 = .ok (.iload 4, 2) := by decide +kernel
theorem dX11_sumOf_7 : decode cX11_sumOf 7 = .ok (.aload_n 0, 1) := by decide +kernel
theorem dX11_sumOf_8 : decode cX11_sumOf 8 = .ok (.getfield 289, 3) := by decide +kernel
theorem dX11_sumOf_11 : decode cX11_sumOf 11 = .ok (.if_icmp .ge 52, 3) := by decide +kernel
theorem dX11_sumOf_14 : decode cX11_sumOf 14 = .ok (.aload_n 0, 1) := by decide +kernel
theorem dX11_sumOf_15 : decode cX11_sumOf 15 = .ok (.iload_n 1, 1) := by decide +kernel
theorem dX11_sumOf_16 : decode cX11_sumOf 16 = .ok (.iload 4, 2) := by decide +kernel
theorem dX11_sumOf_18 : decode cX11_sumOf 18 = .ok (.invokevirtual 362, 3) := by decide +kernel
theorem dX11_sumOf_21 : decode cX11_sumOf 21 = .ok (.iconst (-1), 1) := by decide +kernel
theorem dX11_sumOf_22 : decode cX11_sumOf 22 = .ok (.if_icmp .eq 35, 3) := by decide +kernel
theorem dX11_sumOf_25 : decode cX11_sumOf 25 = .ok (.iload_n 3, 1) := by decide +kernel
theorem dX11_sumOf_26 : decode cX11_sumOf 26 = .ok (.iload_n 2, 1) := by decide +kernel
theorem dX11_sumOf_27 : decode cX11_sumOf 27 = .ok (.ifCond .eq 17, 3) := by decide +kernel
theorem dX11_sumOf_30 : decode cX11_sumOf 30 = .ok (.aload_n 0, 1) := by decide +kernel
theorem dX11_sumOf_31 : decode cX11_sumOf 31 = .ok (.aload_n 0, 1) := by decide +kernel
theorem dX11_sumOf_32 : decode cX11_sumOf 32 = .ok (.iload_n 1, 1) := by decide +kernel
theorem dX11_sumOf_33 : decode cX11_sumOf 33 = .ok (.iload 4, 2) := by decide +kernel
theorem dX11_sumOf_35 : decode cX11_sumOf 35 = .ok (.invokevirtual 362, 3) := by decide +kernel
theorem dX11_sumOf_38 : decode cX11_sumOf 38 = .ok (.invokevirtual 347, 3) := by decide +kernel
theorem dX11_sumOf_41 : decode cX11_sumOf 41 = .ok (.goto 14, 3) := by decide +kernel
theorem dX11_sumOf_44 : decode cX11_sumOf 44 = .ok (.aload_n 0, 1) := by decide +kernel
theorem dX11_sumOf_45 : decode cX11_sumOf 45 = .ok (.aload_n 0, 1) := by decide +kernel
theorem dX11_sumOf_46 : decode cX11_sumOf 46 = .ok (.iload_n 1, 1) := by decide +kernel
theorem dX11_sumOf_47 : decode cX11_sumOf 47 = .ok (.iload 4, 2) := by decide +kernel
theorem dX11_sumOf_49 : decode cX11_sumOf 49 = .ok (.invokevirtual 362, 3) := by decide +kernel
theorem dX11_sumOf_52 : decode cX11_sumOf 52 = .ok (.invokevirtual 344, 3) := by decide +kernel
theorem dX11_sumOf_55 : decode cX11_sumOf 55 = .ok (.iadd, 1) := by decide +kernel
theorem dX11_sumOf_56 : decode cX11_sumOf 56 = .ok (.istore_n 3, 1) := by decide +kernel
theorem dX11_sumOf_57 : decode cX11_sumOf 57 = .ok (.iinc 4 1, 3) := by decide +kernel
theorem dX11_sumOf_60 : decode cX11_sumOf 60 = .ok (.goto (-55), 3) := by decide +kernel
theorem dX11_sumOf_63 : decode cX11_sumOf 63 = .ok (.iload_n 3, 1) := by decide +kernel
theorem dX11_sumOf_64 : decode cX11_sumOf 64 = .ok (.ireturn, 1) := by decide +kernel
theorem dX11_ruleFaults_0 : decode cX11_ruleFaults 0 = .ok (.aload_n 0, 1) := by decide +kernel
theorem dX11_ruleFaults_1 : decode cX11_ruleFaults 1 = .ok (.iload_n 1, 1) := by decide +kernel
theorem dX11_ruleFaults_2 : decode cX11_ruleFaults 2 = .ok (.invokevirtual 356, 3) := by decide +kernel
theorem dX11_ruleFaults_5 : decode cX11_ruleFaults 5 = .ok (.istore_n 2, 1) := by decide +kernel
theorem dX11_ruleFaults_6 : decode cX11_ruleFaults 6 = .ok (.iconst 0, 1) := by decide +kernel
theorem dX11_ruleFaults_7 : decode cX11_ruleFaults 7 = .ok (.istore_n 3, 1) := by decide +kernel
theorem dX11_ruleFaults_8 : decode cX11_ruleFaults 8 = .ok (.aload_n 0, 1) := by decide +kernel
theorem dX11_ruleFaults_9 : decode cX11_ruleFaults 9 = .ok (.getfield 75, 3) := by decide +kernel
theorem dX11_ruleFaults_12 : decode cX11_ruleFaults 12 = .ok (.iload_n 1, 1) := by decide +kernel
theorem dX11_ruleFaults_13 : decode cX11_ruleFaults 13 = .ok (.iaload, 1) := by decide +kernel
theorem dX11_ruleFaults_14 : decode cX11_ruleFaults 14 = .ok (.ifCond .ne 133, 3) := by decide +kernel
theorem dX11_ruleFaults_17 : decode cX11_ruleFaults 17 = .ok (.iconst 0, 1) := by decide +kernel
theorem dX11_ruleFaults_18 : decode cX11_ruleFaults 18 = .ok (.istore 4, 2) := by decide +kernel
theorem dX11_ruleFaults_20 : decode cX11_ruleFaults 20 = .ok (.iload 4, 2) := by decide +kernel
theorem dX11_ruleFaults_22 : decode cX11_ruleFaults 22 = .ok (.aload_n 0, 1) := by decide +kernel
theorem dX11_ruleFaults_23 : decode cX11_ruleFaults 23 = .ok (.getfield 320, 3) := by decide +kernel
theorem dX11_ruleFaults_26 : decode cX11_ruleFaults 26 = .ok (.aload_n 0, 1) := by decide +kernel
theorem dX11_ruleFaults_27 : decode cX11_ruleFaults 27 = .ok (.getfield 289, 3) := by decide +kernel
theorem dX11_ruleFaults_30 : decode cX11_ruleFaults 30 = .ok (.imul, 1) := by decide +kernel
theorem dX11_ruleFaults_31 : decode cX11_ruleFaults 31 = .ok (.if_icmp .ge 113, 3) := by decide +kernel
theorem dX11_ruleFaults_34 : decode cX11_ruleFaults 34 = .ok (.iconst 0, 1) := by decide +kernel
theorem dX11_ruleFaults_35 : decode cX11_ruleFaults 35 = .ok (.istore 5, 2) := by decide +kernel
theorem dX11_ruleFaults_37 : decode cX11_ruleFaults 37 = .ok (.iload 5, 2) := by decide +kernel
theorem dX11_ruleFaults_39 : decode cX11_ruleFaults 39 = .ok (.iload 4, 2) := by decide +kernel
theorem dX11_ruleFaults_41 : decode cX11_ruleFaults 41 = .ok (.if_icmp .ge 97, 3) := by decide +kernel
theorem dX11_ruleFaults_44 : decode cX11_ruleFaults 44 = .ok (.aload_n 0, 1) := by decide +kernel
theorem dX11_ruleFaults_45 : decode cX11_ruleFaults 45 = .ok (.iload_n 2, 1) := by decide +kernel
theorem dX11_ruleFaults_46 : decode cX11_ruleFaults 46 = .ok (.iload 4, 2) := by decide +kernel
theorem dX11_ruleFaults_48 : decode cX11_ruleFaults 48 = .ok (.aload_n 0, 1) := by decide +kernel
theorem dX11_ruleFaults_49 : decode cX11_ruleFaults 49 = .ok (.getfield 289, 3) := by decide +kernel
theorem dX11_ruleFaults_52 : decode cX11_ruleFaults 52 = .ok (.idiv, 1) := by decide +kernel
theorem dX11_ruleFaults_53 : decode cX11_ruleFaults 53 = .ok (.iload 4, 2) := by decide +kernel
theorem dX11_ruleFaults_55 : decode cX11_ruleFaults 55 = .ok (.aload_n 0, 1) := by decide +kernel
theorem dX11_ruleFaults_56 : decode cX11_ruleFaults 56 = .ok (.getfield 289, 3) := by decide +kernel
theorem dX11_ruleFaults_59 : decode cX11_ruleFaults 59 = .ok (.irem, 1) := by decide +kernel
theorem dX11_ruleFaults_60 : decode cX11_ruleFaults 60 = .ok (.invokevirtual 365, 3) := by decide +kernel
theorem dX11_ruleFaults_63 : decode cX11_ruleFaults 63 = .ok (.ifCond .eq 29, 3) := by decide +kernel
theorem dX11_ruleFaults_66 : decode cX11_ruleFaults 66 = .ok (.aload_n 0, 1) := by decide +kernel
theorem dX11_ruleFaults_67 : decode cX11_ruleFaults 67 = .ok (.iload_n 2, 1) := by decide +kernel
theorem dX11_ruleFaults_68 : decode cX11_ruleFaults 68 = .ok (.iload 5, 2) := by decide +kernel
theorem dX11_ruleFaults_70 : decode cX11_ruleFaults 70 = .ok (.aload_n 0, 1) := by decide +kernel
theorem dX11_ruleFaults_71 : decode cX11_ruleFaults 71 = .ok (.getfield 289, 3) := by decide +kernel
theorem dX11_ruleFaults_74 : decode cX11_ruleFaults 74 = .ok (.idiv, 1) := by decide +kernel
theorem dX11_ruleFaults_75 : decode cX11_ruleFaults 75 = .ok (.iload 5, 2) := by decide +kernel
theorem dX11_ruleFaults_77 : decode cX11_ruleFaults 77 = .ok (.aload_n 0, 1) := by decide +kernel
theorem dX11_ruleFaults_78 : decode cX11_ruleFaults 78 = .ok (.getfield 289, 3) := by decide +kernel
theorem dX11_ruleFaults_81 : decode cX11_ruleFaults 81 = .ok (.irem, 1) := by decide +kernel
theorem dX11_ruleFaults_82 : decode cX11_ruleFaults 82 = .ok (.invokevirtual 365, 3) := by decide +kernel
theorem dX11_ruleFaults_85 : decode cX11_ruleFaults 85 = .ok (.ifCond .eq 7, 3) := by decide +kernel
theorem dX11_ruleFaults_88 : decode cX11_ruleFaults 88 = .ok (.iconst 1, 1) := by decide +kernel
theorem dX11_ruleFaults_89 : decode cX11_ruleFaults 89 = .ok (.goto 4, 3) := by decide +kernel
theorem dX11_ruleFaults_92 : decode cX11_ruleFaults 92 = .ok (.iconst 0, 1) := by decide +kernel
theorem dX11_ruleFaults_93 : decode cX11_ruleFaults 93 = .ok (.istore 6, 2) := by decide +kernel
theorem dX11_ruleFaults_95 : decode cX11_ruleFaults 95 = .ok (.iload_n 3, 1) := by decide +kernel
theorem dX11_ruleFaults_96 : decode cX11_ruleFaults 96 = .ok (.iload 6, 2) := by decide +kernel
theorem dX11_ruleFaults_98 : decode cX11_ruleFaults 98 = .ok (.ifCond .eq 31, 3) := by decide +kernel
theorem dX11_ruleFaults_101 : decode cX11_ruleFaults 101 = .ok (.iload 4, 2) := by decide +kernel
theorem dX11_ruleFaults_103 : decode cX11_ruleFaults 103 = .ok (.aload_n 0, 1) := by decide +kernel
theorem dX11_ruleFaults_104 : decode cX11_ruleFaults 104 = .ok (.getfield 289, 3) := by decide +kernel
theorem dX11_ruleFaults_107 : decode cX11_ruleFaults 107 = .ok (.idiv, 1) := by decide +kernel
theorem dX11_ruleFaults_108 : decode cX11_ruleFaults 108 = .ok (.iload 5, 2) := by decide +kernel
theorem dX11_ruleFaults_110 : decode cX11_ruleFaults 110 = .ok (.aload_n 0, 1) := by decide +kernel
theorem dX11_ruleFaults_111 : decode cX11_ruleFaults 111 = .ok (.getfield 289, 3) := by decide +kernel
theorem dX11_ruleFaults_114 : decode cX11_ruleFaults 114 = .ok (.idiv, 1) := by decide +kernel
theorem dX11_ruleFaults_115 : decode cX11_ruleFaults 115 = .ok (.isub, 1) := by decide +kernel
theorem dX11_ruleFaults_116 : decode cX11_ruleFaults 116 = .ok (.aload_n 0, 1) := by decide +kernel
theorem dX11_ruleFaults_117 : decode cX11_ruleFaults 117 = .ok (.getfield 78, 3) := by decide +kernel
theorem dX11_ruleFaults_120 : decode cX11_ruleFaults 120 = .ok (.iload_n 1, 1) := by decide +kernel
theorem dX11_ruleFaults_121 : decode cX11_ruleFaults 121 = .ok (.iaload, 1) := by decide +kernel
theorem dX11_ruleFaults_122 : decode cX11_ruleFaults 122 = .ok (.if_icmp .ge 7, 3) := by decide +kernel
theorem dX11_ruleFaults_125 : decode cX11_ruleFaults 125 = .ok (.iconst 1, 1) := by decide +kernel
theorem dX11_ruleFaults_126 : decode cX11_ruleFaults 126 = .ok (.goto 4, 3) := by decide +kernel
theorem dX11_ruleFaults_129 : decode cX11_ruleFaults 129 = .ok (.iconst 0, 1) := by decide +kernel
theorem dX11_ruleFaults_130 : decode cX11_ruleFaults 130 = .ok (.iadd, 1) := by decide +kernel
theorem dX11_ruleFaults_131 : decode cX11_ruleFaults 131 = .ok (.istore_n 3, 1) := by decide +kernel
theorem dX11_ruleFaults_132 : decode cX11_ruleFaults 132 = .ok (.iinc 5 1, 3) := by decide +kernel
theorem dX11_ruleFaults_135 : decode cX11_ruleFaults 135 = .ok (.goto (-98), 3) := by decide +kernel
theorem dX11_ruleFaults_138 : decode cX11_ruleFaults 138 = .ok (.iinc 4 1, 3) := by decide +kernel
theorem dX11_ruleFaults_141 : decode cX11_ruleFaults 141 = .ok (.goto (-121), 3) := by decide +kernel
theorem dX11_ruleFaults_144 : decode cX11_ruleFaults 144 = .ok (.goto 204, 3) := by decide +kernel
theorem dX11_ruleFaults_147 : decode cX11_ruleFaults 147 = .ok (.aload_n 0, 1) := by decide +kernel
theorem dX11_ruleFaults_148 : decode cX11_ruleFaults 148 = .ok (.getfield 75, 3) := by decide +kernel
theorem dX11_ruleFaults_151 : decode cX11_ruleFaults 151 = .ok (.iload_n 1, 1) := by decide +kernel
theorem dX11_ruleFaults_152 : decode cX11_ruleFaults 152 = .ok (.iaload, 1) := by decide +kernel
theorem dX11_ruleFaults_153 : decode cX11_ruleFaults 153 = .ok (.iconst 3, 1) := by decide +kernel
theorem dX11_ruleFaults_154 : decode cX11_ruleFaults 154 = .ok (.if_icmp .ne 57, 3) := by decide +kernel
theorem dX11_ruleFaults_157 : decode cX11_ruleFaults 157 = .ok (.iconst 0, 1) := by decide +kernel
theorem dX11_ruleFaults_158 : decode cX11_ruleFaults 158 = .ok (.istore 4, 2) := by decide +kernel
theorem dX11_ruleFaults_160 : decode cX11_ruleFaults 160 = .ok (.iload 4, 2) := by decide +kernel
theorem dX11_ruleFaults_162 : decode cX11_ruleFaults 162 = .ok (.aload_n 0, 1) := by decide +kernel
theorem dX11_ruleFaults_163 : decode cX11_ruleFaults 163 = .ok (.getfield 320, 3) := by decide +kernel
theorem dX11_ruleFaults_166 : decode cX11_ruleFaults 166 = .ok (.if_icmp .ge 42, 3) := by decide +kernel
theorem dX11_ruleFaults_169 : decode cX11_ruleFaults 169 = .ok (.iload_n 3, 1) := by decide +kernel
theorem dX11_ruleFaults_170 : decode cX11_ruleFaults 170 = .ok (.aload_n 0, 1) := by decide +kernel
theorem dX11_ruleFaults_171 : decode cX11_ruleFaults 171 = .ok (.iload 4, 2) := by decide +kernel
theorem dX11_ruleFaults_173 : decode cX11_ruleFaults 173 = .ok (.iconst 0, 1) := by decide +kernel
theorem dX11_ruleFaults_174 : decode cX11_ruleFaults 174 = .ok (.invokevirtual 368, 3) := by decide +kernel
theorem dX11_ruleFaults_177 : decode cX11_ruleFaults 177 = .ok (.aload_n 0, 1) := by decide +kernel
theorem dX11_ruleFaults_178 : decode cX11_ruleFaults 178 = .ok (.getfield 78, 3) := by decide +kernel
theorem dX11_ruleFaults_181 : decode cX11_ruleFaults 181 = .ok (.iload_n 1, 1) := by decide +kernel
theorem dX11_ruleFaults_182 : decode cX11_ruleFaults 182 = .ok (.iaload, 1) := by decide +kernel
theorem dX11_ruleFaults_183 : decode cX11_ruleFaults 183 = .ok (.aload_n 0, 1) := by decide +kernel
theorem dX11_ruleFaults_184 : decode cX11_ruleFaults 184 = .ok (.getfield 81, 3) := by decide +kernel
theorem dX11_ruleFaults_187 : decode cX11_ruleFaults 187 = .ok (.iload_n 1, 1) := by decide +kernel
theorem dX11_ruleFaults_188 : decode cX11_ruleFaults 188 = .ok (.iaload, 1) := by decide +kernel
theorem dX11_ruleFaults_189 : decode cX11_ruleFaults 189 = .ok (.invokestatic 106, 3) := by decide +kernel
theorem dX11_ruleFaults_192 : decode cX11_ruleFaults 192 = .ok (.ifCond .eq 7, 3) := by decide +kernel
theorem dX11_ruleFaults_195 : decode cX11_ruleFaults 195 = .ok (.iconst 0, 1) := by decide +kernel
theorem dX11_ruleFaults_196 : decode cX11_ruleFaults 196 = .ok (.goto 4, 3) := by decide +kernel
theorem dX11_ruleFaults_199 : decode cX11_ruleFaults 199 = .ok (.iconst 1, 1) := by decide +kernel
theorem dX11_ruleFaults_200 : decode cX11_ruleFaults 200 = .ok (.iadd, 1) := by decide +kernel
theorem dX11_ruleFaults_201 : decode cX11_ruleFaults 201 = .ok (.istore_n 3, 1) := by decide +kernel
theorem dX11_ruleFaults_202 : decode cX11_ruleFaults 202 = .ok (.iinc 4 1, 3) := by decide +kernel
theorem dX11_ruleFaults_205 : decode cX11_ruleFaults 205 = .ok (.goto (-45), 3) := by decide +kernel
theorem dX11_ruleFaults_208 : decode cX11_ruleFaults 208 = .ok (.goto 140, 3) := by decide +kernel
theorem dX11_ruleFaults_211 : decode cX11_ruleFaults 211 = .ok (.aload_n 0, 1) := by decide +kernel
theorem dX11_ruleFaults_212 : decode cX11_ruleFaults 212 = .ok (.getfield 320, 3) := by decide +kernel
theorem dX11_ruleFaults_215 : decode cX11_ruleFaults 215 = .ok (.aload_n 0, 1) := by decide +kernel
theorem dX11_ruleFaults_216 : decode cX11_ruleFaults 216 = .ok (.getfield 81, 3) := by decide +kernel
theorem dX11_ruleFaults_219 : decode cX11_ruleFaults 219 = .ok (.iload_n 1, 1) := by decide +kernel
theorem dX11_ruleFaults_220 : decode cX11_ruleFaults 220 = .ok (.iaload, 1) := by decide +kernel
theorem dX11_ruleFaults_221 : decode cX11_ruleFaults 221 = .ok (.if_icmp .ge 41, 3) := by decide +kernel
theorem dX11_ruleFaults_224 : decode cX11_ruleFaults 224 = .ok (.aload_n 0, 1) := by decide +kernel
theorem dX11_ruleFaults_225 : decode cX11_ruleFaults 225 = .ok (.getfield 75, 3) := by decide +kernel
theorem dX11_ruleFaults_228 : decode cX11_ruleFaults 228 = .ok (.iload_n 1, 1) := by decide +kernel
theorem dX11_ruleFaults_229 : decode cX11_ruleFaults 229 = .ok (.iaload, 1) := by decide +kernel
theorem dX11_ruleFaults_230 : decode cX11_ruleFaults 230 = .ok (.iconst 1, 1) := by decide +kernel
theorem dX11_ruleFaults_231 : decode cX11_ruleFaults 231 = .ok (.if_icmp .ne 26, 3) := by decide +kernel
theorem dX11_ruleFaults_234 : decode cX11_ruleFaults 234 = .ok (.aload_n 0, 1) := by decide +kernel
theorem dX11_ruleFaults_235 : decode cX11_ruleFaults 235 = .ok (.iload_n 2, 1) := by decide +kernel
theorem dX11_ruleFaults_236 : decode cX11_ruleFaults 236 = .ok (.iconst 0, 1) := by decide +kernel
theorem dX11_ruleFaults_237 : decode cX11_ruleFaults 237 = .ok (.aload_n 0, 1) := by decide +kernel
theorem dX11_ruleFaults_238 : decode cX11_ruleFaults 238 = .ok (.getfield 320, 3) := by decide +kernel
theorem dX11_ruleFaults_241 : decode cX11_ruleFaults 241 = .ok (.invokevirtual 372, 3) := by decide +kernel
theorem dX11_ruleFaults_244 : decode cX11_ruleFaults 244 = .ok (.aload_n 0, 1) := by decide +kernel
theorem dX11_ruleFaults_245 : decode cX11_ruleFaults 245 = .ok (.getfield 78, 3) := by decide +kernel
theorem dX11_ruleFaults_248 : decode cX11_ruleFaults 248 = .ok (.iload_n 1, 1) := by decide +kernel
theorem dX11_ruleFaults_249 : decode cX11_ruleFaults 249 = .ok (.iaload, 1) := by decide +kernel
theorem dX11_ruleFaults_250 : decode cX11_ruleFaults 250 = .ok (.if_icmp .le 7, 3) := by decide +kernel
theorem dX11_ruleFaults_253 : decode cX11_ruleFaults 253 = .ok (.iconst 1, 1) := by decide +kernel
theorem dX11_ruleFaults_254 : decode cX11_ruleFaults 254 = .ok (.goto 4, 3) := by decide +kernel
theorem dX11_ruleFaults_257 : decode cX11_ruleFaults 257 = .ok (.iconst 0, 1) := by decide +kernel
theorem dX11_ruleFaults_258 : decode cX11_ruleFaults 258 = .ok (.istore_n 3, 1) := by decide +kernel
theorem dX11_ruleFaults_259 : decode cX11_ruleFaults 259 = .ok (.goto 89, 3) := by decide +kernel
theorem dX11_ruleFaults_262 : decode cX11_ruleFaults 262 = .ok (.iconst 0, 1) := by decide +kernel
theorem dX11_ruleFaults_263 : decode cX11_ruleFaults 263 = .ok (.istore 4, 2) := by decide +kernel
theorem dX11_ruleFaults_265 : decode cX11_ruleFaults 265 = .ok (.iload 4, 2) := by decide +kernel
theorem dX11_ruleFaults_267 : decode cX11_ruleFaults 267 = .ok (.aload_n 0, 1) := by decide +kernel
theorem dX11_ruleFaults_268 : decode cX11_ruleFaults 268 = .ok (.getfield 81, 3) := by decide +kernel
theorem dX11_ruleFaults_271 : decode cX11_ruleFaults 271 = .ok (.iload_n 1, 1) := by decide +kernel
theorem dX11_ruleFaults_272 : decode cX11_ruleFaults 272 = .ok (.iaload, 1) := by decide +kernel
theorem dX11_ruleFaults_273 : decode cX11_ruleFaults 273 = .ok (.iadd, 1) := by decide +kernel
theorem dX11_ruleFaults_274 : decode cX11_ruleFaults 274 = .ok (.aload_n 0, 1) := by decide +kernel
theorem dX11_ruleFaults_275 : decode cX11_ruleFaults 275 = .ok (.getfield 320, 3) := by decide +kernel
theorem dX11_ruleFaults_278 : decode cX11_ruleFaults 278 = .ok (.if_icmp .gt 70, 3) := by decide +kernel
theorem dX11_ruleFaults_281 : decode cX11_ruleFaults 281 = .ok (.aload_n 0, 1) := by decide +kernel
theorem dX11_ruleFaults_282 : decode cX11_ruleFaults 282 = .ok (.iload_n 2, 1) := by decide +kernel
theorem dX11_ruleFaults_283 : decode cX11_ruleFaults 283 = .ok (.iload 4, 2) := by decide +kernel
theorem dX11_ruleFaults_285 : decode cX11_ruleFaults 285 = .ok (.iload 4, 2) := by decide +kernel
theorem dX11_ruleFaults_287 : decode cX11_ruleFaults 287 = .ok (.aload_n 0, 1) := by decide +kernel
theorem dX11_ruleFaults_288 : decode cX11_ruleFaults 288 = .ok (.getfield 81, 3) := by decide +kernel
theorem dX11_ruleFaults_291 : decode cX11_ruleFaults 291 = .ok (.iload_n 1, 1) := by decide +kernel
theorem dX11_ruleFaults_292 : decode cX11_ruleFaults 292 = .ok (.iaload, 1) := by decide +kernel
theorem dX11_ruleFaults_293 : decode cX11_ruleFaults 293 = .ok (.iadd, 1) := by decide +kernel
theorem dX11_ruleFaults_294 : decode cX11_ruleFaults 294 = .ok (.invokevirtual 372, 3) := by decide +kernel
theorem dX11_ruleFaults_297 : decode cX11_ruleFaults 297 = .ok (.istore 5, 2) := by decide +kernel
theorem dX11_ruleFaults_299 : decode cX11_ruleFaults 299 = .ok (.iload_n 3, 1) := by decide +kernel
theorem dX11_ruleFaults_300 : decode cX11_ruleFaults 300 = .ok (.aload_n 0, 1) := by decide +kernel
theorem dX11_ruleFaults_301 : decode cX11_ruleFaults 301 = .ok (.getfield 75, 3) := by decide +kernel
theorem dX11_ruleFaults_304 : decode cX11_ruleFaults 304 = .ok (.iload_n 1, 1) := by decide +kernel
theorem dX11_ruleFaults_305 : decode cX11_ruleFaults 305 = .ok (.iaload, 1) := by decide +kernel
theorem dX11_ruleFaults_306 : decode cX11_ruleFaults 306 = .ok (.iconst 1, 1) := by decide +kernel
theorem dX11_ruleFaults_307 : decode cX11_ruleFaults 307 = .ok (.if_icmp .ne 17, 3) := by decide +kernel
theorem dX11_ruleFaults_310 : decode cX11_ruleFaults 310 = .ok (.iload 5, 2) := by decide +kernel
theorem dX11_ruleFaults_312 : decode cX11_ruleFaults 312 = .ok (.aload_n 0, 1) := by decide +kernel
theorem dX11_ruleFaults_313 : decode cX11_ruleFaults 313 = .ok (.getfield 78, 3) := by decide +kernel
theorem dX11_ruleFaults_316 : decode cX11_ruleFaults 316 = .ok (.iload_n 1, 1) := by decide +kernel
theorem dX11_ruleFaults_317 : decode cX11_ruleFaults 317 = .ok (.iaload, 1) := by decide +kernel
theorem dX11_ruleFaults_318 : decode cX11_ruleFaults 318 = .ok (.if_icmp .le 21, 3) := by decide +kernel
theorem dX11_ruleFaults_321 : decode cX11_ruleFaults 321 = .ok (.goto 14, 3) := by decide +kernel
theorem dX11_ruleFaults_324 : decode cX11_ruleFaults 324 = .ok (.iload 5, 2) := by decide +kernel
theorem dX11_ruleFaults_326 : decode cX11_ruleFaults 326 = .ok (.aload_n 0, 1) := by decide +kernel
theorem dX11_ruleFaults_327 : decode cX11_ruleFaults 327 = .ok (.getfield 78, 3) := by decide +kernel
theorem dX11_ruleFaults_330 : decode cX11_ruleFaults 330 = .ok (.iload_n 1, 1) := by decide +kernel
theorem dX11_ruleFaults_331 : decode cX11_ruleFaults 331 = .ok (.iaload, 1) := by decide +kernel
theorem dX11_ruleFaults_332 : decode cX11_ruleFaults 332 = .ok (.if_icmp .ge 7, 3) := by decide +kernel
theorem dX11_ruleFaults_335 : decode cX11_ruleFaults 335 = .ok (.iconst 1, 1) := by decide +kernel
theorem dX11_ruleFaults_336 : decode cX11_ruleFaults 336 = .ok (.goto 4, 3) := by decide +kernel
theorem dX11_ruleFaults_339 : decode cX11_ruleFaults 339 = .ok (.iconst 0, 1) := by decide +kernel
theorem dX11_ruleFaults_340 : decode cX11_ruleFaults 340 = .ok (.iadd, 1) := by decide +kernel
theorem dX11_ruleFaults_341 : decode cX11_ruleFaults 341 = .ok (.istore_n 3, 1) := by decide +kernel
theorem dX11_ruleFaults_342 : decode cX11_ruleFaults 342 = .ok (.iinc 4 1, 3) := by decide +kernel
theorem dX11_ruleFaults_345 : decode cX11_ruleFaults 345 = .ok (.goto (-80), 3) := by decide +kernel
theorem dX11_ruleFaults_348 : decode cX11_ruleFaults 348 = .ok (.iload_n 3, 1) := by decide +kernel
theorem dX11_ruleFaults_349 : decode cX11_ruleFaults 349 = .ok (.ireturn, 1) := by decide +kernel
theorem dX11_allFaults_0 : decode cX11_allFaults 0 = .ok (.iconst 0, 1) := by decide +kernel
theorem dX11_allFaults_1 : decode cX11_allFaults 1 = .ok (.istore_n 1, 1) := by decide +kernel
theorem dX11_allFaults_2 : decode cX11_allFaults 2 = .ok (.iconst 0, 1) := by decide +kernel
theorem dX11_allFaults_3 : decode cX11_allFaults 3 = .ok (.istore_n 2, 1) := by decide +kernel
theorem dX11_allFaults_4 : decode cX11_allFaults 4 = .ok (.iload_n 2, 1) := by decide +kernel
theorem dX11_allFaults_5 : decode cX11_allFaults 5 = .ok (.aload_n 0, 1) := by decide +kernel
theorem dX11_allFaults_6 : decode cX11_allFaults 6 = .ok (.getfield 320, 3) := by decide +kernel
theorem dX11_allFaults_9 : decode cX11_allFaults 9 = .ok (.if_icmp .ge 43, 3) := by decide +kernel
theorem dX11_allFaults_12 : decode cX11_allFaults 12 = .ok (.iconst 0, 1) := by decide +kernel
theorem dX11_allFaults_13 : decode cX11_allFaults 13 = .ok (.istore_n 3, 1) := by decide +kernel
theorem dX11_allFaults_14 : decode cX11_allFaults 14 = .ok (.iload_n 3, 1) := by decide +kernel
theorem dX11_allFaults_15 : decode cX11_allFaults 15 = .ok (.aload_n 0, 1) := by decide +kernel
theorem dX11_allFaults_16 : decode cX11_allFaults 16 = .ok (.getfield 289, 3) := by decide +kernel
theorem dX11_allFaults_19 : decode cX11_allFaults 19 = .ok (.if_icmp .ge 27, 3) := by decide +kernel
theorem dX11_allFaults_22 : decode cX11_allFaults 22 = .ok (.iload_n 1, 1) := by decide +kernel
theorem dX11_allFaults_23 : decode cX11_allFaults 23 = .ok (.aload_n 0, 1) := by decide +kernel
theorem dX11_allFaults_24 : decode cX11_allFaults 24 = .ok (.iload_n 2, 1) := by decide +kernel
theorem dX11_allFaults_25 : decode cX11_allFaults 25 = .ok (.iload_n 3, 1) := by decide +kernel
theorem dX11_allFaults_26 : decode cX11_allFaults 26 = .ok (.invokevirtual 362, 3) := by decide +kernel
theorem dX11_allFaults_29 : decode cX11_allFaults 29 = .ok (.iconst (-1), 1) := by decide +kernel
theorem dX11_allFaults_30 : decode cX11_allFaults 30 = .ok (.if_icmp .ne 7, 3) := by decide +kernel
theorem dX11_allFaults_33 : decode cX11_allFaults 33 = .ok (.iconst 1, 1) := by decide +kernel
theorem dX11_allFaults_34 : decode cX11_allFaults 34 = .ok (.goto 4, 3) := by decide +kernel
theorem dX11_allFaults_37 : decode cX11_allFaults 37 = .ok (.iconst 0, 1) := by decide +kernel
theorem dX11_allFaults_38 : decode cX11_allFaults 38 = .ok (.iadd, 1) := by decide +kernel
theorem dX11_allFaults_39 : decode cX11_allFaults 39 = .ok (.istore_n 1, 1) := by decide +kernel
theorem dX11_allFaults_40 : decode cX11_allFaults 40 = .ok (.iinc 3 1, 3) := by decide +kernel
theorem dX11_allFaults_43 : decode cX11_allFaults 43 = .ok (.goto (-29), 3) := by decide +kernel
theorem dX11_allFaults_46 : decode cX11_allFaults 46 = .ok (.iinc 2 1, 3) := by decide +kernel
theorem dX11_allFaults_49 : decode cX11_allFaults 49 = .ok (.goto (-45), 3) := by decide +kernel
theorem dX11_allFaults_52 : decode cX11_allFaults 52 = .ok (.iconst 0, 1) := by decide +kernel
theorem dX11_allFaults_53 : decode cX11_allFaults 53 = .ok (.istore_n 2, 1) := by decide +kernel
theorem dX11_allFaults_54 : decode cX11_allFaults 54 = .ok (.iload_n 2, 1) := by decide +kernel
theorem dX11_allFaults_55 : decode cX11_allFaults 55 = .ok (.aload_n 0, 1) := by decide +kernel
theorem dX11_allFaults_56 : decode cX11_allFaults 56 = .ok (.getfield 298, 3) := by decide +kernel
theorem dX11_allFaults_59 : decode cX11_allFaults 59 = .ok (.if_icmp .ge 17, 3) := by decide +kernel
theorem dX11_allFaults_62 : decode cX11_allFaults 62 = .ok (.iload_n 1, 1) := by decide +kernel
theorem dX11_allFaults_63 : decode cX11_allFaults 63 = .ok (.aload_n 0, 1) := by decide +kernel
theorem dX11_allFaults_64 : decode cX11_allFaults 64 = .ok (.iload_n 2, 1) := by decide +kernel
theorem dX11_allFaults_65 : decode cX11_allFaults 65 = .ok (.invokevirtual 376, 3) := by decide +kernel
theorem dX11_allFaults_68 : decode cX11_allFaults 68 = .ok (.iadd, 1) := by decide +kernel
theorem dX11_allFaults_69 : decode cX11_allFaults 69 = .ok (.istore_n 1, 1) := by decide +kernel
theorem dX11_allFaults_70 : decode cX11_allFaults 70 = .ok (.iinc 2 1, 3) := by decide +kernel
theorem dX11_allFaults_73 : decode cX11_allFaults 73 = .ok (.goto (-19), 3) := by decide +kernel
theorem dX11_allFaults_76 : decode cX11_allFaults 76 = .ok (.iload_n 1, 1) := by decide +kernel
theorem dX11_allFaults_77 : decode cX11_allFaults 77 = .ok (.ireturn, 1) := by decide +kernel
theorem dX11_hardFaults_0 : decode cX11_hardFaults 0 = .ok (.iconst 0, 1) := by decide +kernel
theorem dX11_hardFaults_1 : decode cX11_hardFaults 1 = .ok (.istore_n 1, 1) := by decide +kernel
theorem dX11_hardFaults_2 : decode cX11_hardFaults 2 = .ok (.iconst 0, 1) := by decide +kernel
theorem dX11_hardFaults_3 : decode cX11_hardFaults 3 = .ok (.istore_n 2, 1) := by decide +kernel
theorem dX11_hardFaults_4 : decode cX11_hardFaults 4 = .ok (.iload_n 2, 1) := by decide +kernel
theorem dX11_hardFaults_5 : decode cX11_hardFaults 5 = .ok (.aload_n 0, 1) := by decide +kernel
theorem dX11_hardFaults_6 : decode cX11_hardFaults 6 = .ok (.getfield 298, 3) := by decide +kernel
theorem dX11_hardFaults_9 : decode cX11_hardFaults 9 = .ok (.if_icmp .ge 40, 3) := by decide +kernel
theorem dX11_hardFaults_12 : decode cX11_hardFaults 12 = .ok (.iload_n 1, 1) := by decide +kernel
theorem dX11_hardFaults_13 : decode cX11_hardFaults 13 = .ok (.aload_n 0, 1) := by decide +kernel
theorem dX11_hardFaults_14 : decode cX11_hardFaults 14 = .ok (.getfield 75, 3) := by decide +kernel
theorem dX11_hardFaults_17 : decode cX11_hardFaults 17 = .ok (.iload_n 2, 1) := by decide +kernel
theorem dX11_hardFaults_18 : decode cX11_hardFaults 18 = .ok (.iaload, 1) := by decide +kernel
theorem dX11_hardFaults_19 : decode cX11_hardFaults 19 = .ok (.ifCond .eq 13, 3) := by decide +kernel
theorem dX11_hardFaults_22 : decode cX11_hardFaults 22 = .ok (.aload_n 0, 1) := by decide +kernel
theorem dX11_hardFaults_23 : decode cX11_hardFaults 23 = .ok (.getfield 75, 3) := by decide +kernel
theorem dX11_hardFaults_26 : decode cX11_hardFaults 26 = .ok (.iload_n 2, 1) := by decide +kernel
theorem dX11_hardFaults_27 : decode cX11_hardFaults 27 = .ok (.iaload, 1) := by decide +kernel
theorem dX11_hardFaults_28 : decode cX11_hardFaults 28 = .ok (.iconst 1, 1) := by decide +kernel
theorem dX11_hardFaults_29 : decode cX11_hardFaults 29 = .ok (.if_icmp .ne 11, 3) := by decide +kernel
theorem dX11_hardFaults_32 : decode cX11_hardFaults 32 = .ok (.aload_n 0, 1) := by decide +kernel
theorem dX11_hardFaults_33 : decode cX11_hardFaults 33 = .ok (.iload_n 2, 1) := by decide +kernel
theorem dX11_hardFaults_34 : decode cX11_hardFaults 34 = .ok (.invokevirtual 376, 3) := by decide +kernel
theorem dX11_hardFaults_37 : decode cX11_hardFaults 37 = .ok (.goto 4, 3) := by decide +kernel
theorem dX11_hardFaults_40 : decode cX11_hardFaults 40 = .ok (.iconst 0, 1) := by decide +kernel
theorem dX11_hardFaults_41 : decode cX11_hardFaults 41 = .ok (.iadd, 1) := by decide +kernel
theorem dX11_hardFaults_42 : decode cX11_hardFaults 42 = .ok (.istore_n 1, 1) := by decide +kernel
theorem dX11_hardFaults_43 : decode cX11_hardFaults 43 = .ok (.iinc 2 1, 3) := by decide +kernel
theorem dX11_hardFaults_46 : decode cX11_hardFaults 46 = .ok (.goto (-42), 3) := by decide +kernel
theorem dX11_hardFaults_49 : decode cX11_hardFaults 49 = .ok (.iload_n 1, 1) := by decide +kernel
theorem dX11_hardFaults_50 : decode cX11_hardFaults 50 = .ok (.ireturn, 1) := by decide +kernel
theorem dX11_timesOf_0 : decode cX11_timesOf 0 = .ok (.iconst 0, 1) := by decide +kernel
theorem dX11_timesOf_1 : decode cX11_timesOf 1 = .ok (.istore_n 2, 1) := by decide +kernel
theorem dX11_timesOf_2 : decode cX11_timesOf 2 = .ok (.iconst 0, 1) := by decide +kernel
theorem dX11_timesOf_3 : decode cX11_timesOf 3 = .ok (.istore_n 3, 1) := by decide +kernel
theorem dX11_timesOf_4 : decode cX11_timesOf 4 = .ok (.iload_n 3, 1) := by decide +kernel
theorem dX11_timesOf_5 : decode cX11_timesOf 5 = .ok (.aload_n 0, 1) := by decide +kernel
theorem dX11_timesOf_6 : decode cX11_timesOf 6 = .ok (.getfield 320, 3) := by decide +kernel
theorem dX11_timesOf_9 : decode cX11_timesOf 9 = .ok (.if_icmp .ge 46, 3) := by decide +kernel
theorem dX11_timesOf_12 : decode cX11_timesOf 12 = .ok (.iconst 0, 1) := by decide +kernel
theorem dX11_timesOf_13 : decode cX11_timesOf 13 = .ok (.istore 4, 2) := by decide +kernel
theorem dX11_timesOf_15 : decode cX11_timesOf 15 = .ok (.iload 4, 2) := by decide +kernel
theorem dX11_timesOf_17 : decode cX11_timesOf 17 = .ok (.aload_n 0, 1) := by decide +kernel
theorem dX11_timesOf_18 : decode cX11_timesOf 18 = .ok (.getfield 289, 3) := by decide +kernel
theorem dX11_timesOf_21 : decode cX11_timesOf 21 = .ok (.if_icmp .ge 28, 3) := by decide +kernel
theorem dX11_timesOf_24 : decode cX11_timesOf 24 = .ok (.iload_n 2, 1) := by decide +kernel
theorem dX11_timesOf_25 : decode cX11_timesOf 25 = .ok (.aload_n 0, 1) := by decide +kernel
theorem dX11_timesOf_26 : decode cX11_timesOf 26 = .ok (.iload_n 3, 1) := by decide +kernel
theorem dX11_timesOf_27 : decode cX11_timesOf 27 = .ok (.iload 4, 2) := by decide +kernel
theorem dX11_timesOf_29 : decode cX11_timesOf 29 = .ok (.invokevirtual 362, 3) := by decide +kernel
theorem dX11_timesOf_32 : decode cX11_timesOf 32 = .ok (.iload_n 1, 1) := by decide +kernel
theorem dX11_timesOf_33 : decode cX11_timesOf 33 = .ok (.if_icmp .ne 7, 3) := by decide +kernel
theorem dX11_timesOf_36 : decode cX11_timesOf 36 = .ok (.iconst 1, 1) := by decide +kernel
theorem dX11_timesOf_37 : decode cX11_timesOf 37 = .ok (.goto 4, 3) := by decide +kernel
theorem dX11_timesOf_40 : decode cX11_timesOf 40 = .ok (.iconst 0, 1) := by decide +kernel
theorem dX11_timesOf_41 : decode cX11_timesOf 41 = .ok (.iadd, 1) := by decide +kernel
theorem dX11_timesOf_42 : decode cX11_timesOf 42 = .ok (.istore_n 2, 1) := by decide +kernel
theorem dX11_timesOf_43 : decode cX11_timesOf 43 = .ok (.iinc 4 1, 3) := by decide +kernel
theorem dX11_timesOf_46 : decode cX11_timesOf 46 = .ok (.goto (-31), 3) := by decide +kernel
theorem dX11_timesOf_49 : decode cX11_timesOf 49 = .ok (.iinc 3 1, 3) := by decide +kernel
theorem dX11_timesOf_52 : decode cX11_timesOf 52 = .ok (.goto (-48), 3) := by decide +kernel
theorem dX11_timesOf_55 : decode cX11_timesOf 55 = .ok (.iload_n 2, 1) := by decide +kernel
theorem dX11_timesOf_56 : decode cX11_timesOf 56 = .ok (.ireturn, 1) := by decide +kernel
theorem dX11_planned_0 : decode cX11_planned 0 = .ok (.aload_n 0, 1) := by decide +kernel
theorem dX11_planned_1 : decode cX11_planned 1 = .ok (.invokevirtual 379, 3) := by decide +kernel
theorem dX11_planned_4 : decode cX11_planned 4 = .ok (.istore_n 3, 1) := by decide +kernel
theorem dX11_planned_5 : decode cX11_planned 5 = .ok (.iconst (-1), 1) := by decide +kernel
theorem dX11_planned_6 : decode cX11_planned 6 = .ok (.istore 4, 2) := by decide +kernel
theorem dX11_planned_8 : decode cX11_planned 8 = .ok (.iconst 0, 1) := by decide +kernel
theorem dX11_planned_9 : decode cX11_planned 9 = .ok (.istore 5, 2) := by decide +kernel
theorem dX11_planned_11 : decode cX11_planned 11 = .ok (.iload 5, 2) := by decide +kernel
theorem dX11_planned_13 : decode cX11_planned 13 = .ok (.aload_n 0, 1) := by decide +kernel
theorem dX11_planned_14 : decode cX11_planned 14 = .ok (.getfield 247, 3) := by decide +kernel
theorem dX11_planned_17 : decode cX11_planned 17 = .ok (.if_icmp .ge 96, 3) := by decide +kernel
theorem dX11_planned_20 : decode cX11_planned 20 = .ok (.aload_n 0, 1) := by decide +kernel
theorem dX11_planned_21 : decode cX11_planned 21 = .ok (.getfield 66, 3) := by decide +kernel
theorem dX11_planned_24 : decode cX11_planned 24 = .ok (.iload_n 2, 1) := by decide +kernel
theorem dX11_planned_25 : decode cX11_planned 25 = .ok (.iaload, 1) := by decide +kernel
theorem dX11_planned_26 : decode cX11_planned 26 = .ok (.iload 5, 2) := by decide +kernel
theorem dX11_planned_28 : decode cX11_planned 28 = .ok (.ishr, 1) := by decide +kernel
theorem dX11_planned_29 : decode cX11_planned 29 = .ok (.iconst 1, 1) := by decide +kernel
theorem dX11_planned_30 : decode cX11_planned 30 = .ok (.iand, 1) := by decide +kernel
theorem dX11_planned_31 : decode cX11_planned 31 = .ok (.ifCond .ne 6, 3) := by decide +kernel
theorem dX11_planned_34 : decode cX11_planned 34 = .ok (.goto 73, 3) := by decide +kernel
theorem dX11_planned_37 : decode cX11_planned 37 = .ok (.aload_n 0, 1) := by decide +kernel
theorem dX11_planned_38 : decode cX11_planned 38 = .ok (.getfield 93, 3) := by decide +kernel
theorem dX11_planned_41 : decode cX11_planned 41 = .ok (.bipush 8, 2) := by decide +kernel
theorem dX11_planned_43 : decode cX11_planned 43 = .ok (.iload_n 1, 1) := by decide +kernel
theorem dX11_planned_44 : decode cX11_planned 44 = .ok (.imul, 1) := by decide +kernel
theorem dX11_planned_45 : decode cX11_planned 45 = .ok (.iload_n 2, 1) := by decide +kernel
theorem dX11_planned_46 : decode cX11_planned 46 = .ok (.iadd, 1) := by decide +kernel
theorem dX11_planned_47 : decode cX11_planned 47 = .ok (.iload 5, 2) := by decide +kernel
theorem dX11_planned_49 : decode cX11_planned 49 = .ok (.iastore, 1) := by decide +kernel
theorem dX11_planned_50 : decode cX11_planned 50 = .ok (.aload_n 0, 1) := by decide +kernel
theorem dX11_planned_51 : decode cX11_planned 51 = .ok (.invokevirtual 379, 3) := by decide +kernel
theorem dX11_planned_54 : decode cX11_planned 54 = .ok (.iload_n 3, 1) := by decide +kernel
theorem dX11_planned_55 : decode cX11_planned 55 = .ok (.if_icmp .gt 7, 3) := by decide +kernel
theorem dX11_planned_58 : decode cX11_planned 58 = .ok (.iconst 1, 1) := by decide +kernel
theorem dX11_planned_59 : decode cX11_planned 59 = .ok (.goto 4, 3) := by decide +kernel
theorem dX11_planned_62 : decode cX11_planned 62 = .ok (.iconst 0, 1) := by decide +kernel
theorem dX11_planned_63 : decode cX11_planned 63 = .ok (.istore 6, 2) := by decide +kernel
theorem dX11_planned_65 : decode cX11_planned 65 = .ok (.aload_n 0, 1) := by decide +kernel
theorem dX11_planned_66 : decode cX11_planned 66 = .ok (.getfield 93, 3) := by decide +kernel
theorem dX11_planned_69 : decode cX11_planned 69 = .ok (.bipush 8, 2) := by decide +kernel
theorem dX11_planned_71 : decode cX11_planned 71 = .ok (.iload_n 1, 1) := by decide +kernel
theorem dX11_planned_72 : decode cX11_planned 72 = .ok (.imul, 1) := by decide +kernel
theorem dX11_planned_73 : decode cX11_planned 73 = .ok (.iload_n 2, 1) := by decide +kernel
theorem dX11_planned_74 : decode cX11_planned 74 = .ok (.iadd, 1) := by decide +kernel
theorem dX11_planned_75 : decode cX11_planned 75 = .ok (.iconst (-1), 1) := by decide +kernel
theorem dX11_planned_76 : decode cX11_planned 76 = .ok (.iastore, 1) := by decide +kernel
theorem dX11_planned_77 : decode cX11_planned 77 = .ok (.iload 6, 2) := by decide +kernel
theorem dX11_planned_79 : decode cX11_planned 79 = .ok (.ifCond .eq 28, 3) := by decide +kernel
theorem dX11_planned_82 : decode cX11_planned 82 = .ok (.iload 4, 2) := by decide +kernel
theorem dX11_planned_84 : decode cX11_planned 84 = .ok (.iconst (-1), 1) := by decide +kernel
theorem dX11_planned_85 : decode cX11_planned 85 = .ok (.if_icmp .eq 18, 3) := by decide +kernel
theorem dX11_planned_88 : decode cX11_planned 88 = .ok (.aload_n 0, 1) := by decide +kernel
theorem dX11_planned_89 : decode cX11_planned 89 = .ok (.iload 5, 2) := by decide +kernel
theorem dX11_planned_91 : decode cX11_planned 91 = .ok (.invokevirtual 382, 3) := by decide +kernel
theorem dX11_planned_94 : decode cX11_planned 94 = .ok (.aload_n 0, 1) := by decide +kernel
theorem dX11_planned_95 : decode cX11_planned 95 = .ok (.iload 4, 2) := by decide +kernel
theorem dX11_planned_97 : decode cX11_planned 97 = .ok (.invokevirtual 382, 3) := by decide +kernel
theorem dX11_planned_100 : decode cX11_planned 100 = .ok (.if_icmp .ge 7, 3) := by decide +kernel
theorem dX11_planned_103 : decode cX11_planned 103 = .ok (.iload 5, 2) := by decide +kernel
theorem dX11_planned_105 : decode cX11_planned 105 = .ok (.istore 4, 2) := by decide +kernel
theorem dX11_planned_107 : decode cX11_planned 107 = .ok (.iinc 5 1, 3) := by decide +kernel
theorem dX11_planned_110 : decode cX11_planned 110 = .ok (.goto (-99), 3) := by decide +kernel
theorem dX11_planned_113 : decode cX11_planned 113 = .ok (.iload 4, 2) := by decide +kernel
theorem dX11_planned_115 : decode cX11_planned 115 = .ok (.ireturn, 1) := by decide +kernel
theorem dX11_plan_0 : decode cX11_plan 0 = .ok (.aload_n 0, 1) := by decide +kernel
theorem dX11_plan_1 : decode cX11_plan 1 = .ok (.iconst 0, 1) := by decide +kernel
theorem dX11_plan_2 : decode cX11_plan 2 = .ok (.putfield 96, 3) := by decide +kernel
theorem dX11_plan_5 : decode cX11_plan 5 = .ok (.iload_n 1, 1) := by decide +kernel
theorem dX11_plan_6 : decode cX11_plan 6 = .ok (.iconst 1, 1) := by decide +kernel
theorem dX11_plan_7 : decode cX11_plan 7 = .ok (.bipush 14, 2) := by decide +kernel
theorem dX11_plan_9 : decode cX11_plan 9 = .ok (.invokestatic 106, 3) := by decide +kernel
theorem dX11_plan_12 : decode cX11_plan 12 = .ok (.ifCond .ne 9, 3) := by decide +kernel
theorem dX11_plan_15 : decode cX11_plan 15 = .ok (.aload_n 0, 1) := by decide +kernel
theorem dX11_plan_16 : decode cX11_plan 16 = .ok (.iconst 1, 1) := by decide +kernel
theorem dX11_plan_17 : decode cX11_plan 17 = .ok (.invokevirtual 102, 3) := by decide +kernel
theorem dX11_plan_20 : decode cX11_plan 20 = .ok (.ireturn, 1) := by decide +kernel
theorem dX11_plan_21 : decode cX11_plan 21 = .ok (.aload_n 0, 1) := by decide +kernel
theorem dX11_plan_22 : decode cX11_plan 22 = .ok (.getfield 316, 3) := by decide +kernel
theorem dX11_plan_25 : decode cX11_plan 25 = .ok (.ifCond .ne 9, 3) := by decide +kernel
theorem dX11_plan_28 : decode cX11_plan 28 = .ok (.aload_n 0, 1) := by decide +kernel
theorem dX11_plan_29 : decode cX11_plan 29 = .ok (.iconst 2, 1) := by decide +kernel
theorem dX11_plan_30 : decode cX11_plan 30 = .ok (.invokevirtual 102, 3) := by decide +kernel
theorem dX11_plan_33 : decode cX11_plan 33 = .ok (.ireturn, 1) := by decide +kernel
theorem dX11_plan_34 : decode cX11_plan 34 = .ok (.aload_n 0, 1) := by decide +kernel
theorem dX11_plan_35 : decode cX11_plan 35 = .ok (.iload_n 1, 1) := by decide +kernel
theorem dX11_plan_36 : decode cX11_plan 36 = .ok (.putfield 320, 3) := by decide +kernel
theorem dX11_plan_39 : decode cX11_plan 39 = .ok (.iconst 0, 1) := by decide +kernel
theorem dX11_plan_40 : decode cX11_plan 40 = .ok (.istore_n 2, 1) := by decide +kernel
theorem dX11_plan_41 : decode cX11_plan 41 = .ok (.iload_n 2, 1) := by decide +kernel
theorem dX11_plan_42 : decode cX11_plan 42 = .ok (.bipush 112, 2) := by decide +kernel
theorem dX11_plan_44 : decode cX11_plan 44 = .ok (.if_icmp .ge 16, 3) := by decide +kernel
theorem dX11_plan_47 : decode cX11_plan 47 = .ok (.aload_n 0, 1) := by decide +kernel
theorem dX11_plan_48 : decode cX11_plan 48 = .ok (.getfield 93, 3) := by decide +kernel
theorem dX11_plan_51 : decode cX11_plan 51 = .ok (.iload_n 2, 1) := by decide +kernel
theorem dX11_plan_52 : decode cX11_plan 52 = .ok (.iconst (-1), 1) := by decide +kernel
theorem dX11_plan_53 : decode cX11_plan 53 = .ok (.iastore, 1) := by decide +kernel
theorem dX11_plan_54 : decode cX11_plan 54 = .ok (.iinc 2 1, 3) := by decide +kernel
theorem dX11_plan_57 : decode cX11_plan 57 = .ok (.goto (-16), 3) := by decide +kernel
theorem dX11_plan_60 : decode cX11_plan 60 = .ok (.iconst 0, 1) := by decide +kernel
theorem dX11_plan_61 : decode cX11_plan 61 = .ok (.istore_n 2, 1) := by decide +kernel
theorem dX11_plan_62 : decode cX11_plan 62 = .ok (.iload_n 2, 1) := by decide +kernel
theorem dX11_plan_63 : decode cX11_plan 63 = .ok (.iload_n 1, 1) := by decide +kernel
theorem dX11_plan_64 : decode cX11_plan 64 = .ok (.if_icmp .ge 42, 3) := by decide +kernel
theorem dX11_plan_67 : decode cX11_plan 67 = .ok (.iconst 0, 1) := by decide +kernel
theorem dX11_plan_68 : decode cX11_plan 68 = .ok (.istore_n 3, 1) := by decide +kernel
theorem dX11_plan_69 : decode cX11_plan 69 = .ok (.iload_n 3, 1) := by decide +kernel
theorem dX11_plan_70 : decode cX11_plan 70 = .ok (.aload_n 0, 1) := by decide +kernel
theorem dX11_plan_71 : decode cX11_plan 71 = .ok (.getfield 289, 3) := by decide +kernel
theorem dX11_plan_74 : decode cX11_plan 74 = .ok (.if_icmp .ge 26, 3) := by decide +kernel
theorem dX11_plan_77 : decode cX11_plan 77 = .ok (.aload_n 0, 1) := by decide +kernel
theorem dX11_plan_78 : decode cX11_plan 78 = .ok (.getfield 93, 3) := by decide +kernel
theorem dX11_plan_81 : decode cX11_plan 81 = .ok (.bipush 8, 2) := by decide +kernel
theorem dX11_plan_83 : decode cX11_plan 83 = .ok (.iload_n 2, 1) := by decide +kernel
theorem dX11_plan_84 : decode cX11_plan 84 = .ok (.imul, 1) := by decide +kernel
theorem dX11_plan_85 : decode cX11_plan 85 = .ok (.iload_n 3, 1) := by decide +kernel
theorem dX11_plan_86 : decode cX11_plan 86 = .ok (.iadd, 1) := by decide +kernel
theorem dX11_plan_87 : decode cX11_plan 87 = .ok (.aload_n 0, 1) := by decide +kernel
theorem dX11_plan_88 : decode cX11_plan 88 = .ok (.iload_n 2, 1) := by decide +kernel
theorem dX11_plan_89 : decode cX11_plan 89 = .ok (.iload_n 3, 1) := by decide +kernel
theorem dX11_plan_90 : decode cX11_plan 90 = .ok (.invokevirtual 385, 3) := by decide +kernel
theorem dX11_plan_93 : decode cX11_plan 93 = .ok (.iastore, 1) := by decide +kernel
theorem dX11_plan_94 : decode cX11_plan 94 = .ok (.iinc 3 1, 3) := by decide +kernel
theorem dX11_plan_97 : decode cX11_plan 97 = .ok (.goto (-28), 3) := by decide +kernel
theorem dX11_plan_100 : decode cX11_plan 100 = .ok (.iinc 2 1, 3) := by decide +kernel
theorem dX11_plan_103 : decode cX11_plan 103 = .ok (.goto (-41), 3) := by decide +kernel
theorem dX11_plan_106 : decode cX11_plan 106 = .ok (.aload_n 0, 1) := by decide +kernel
theorem dX11_plan_107 : decode cX11_plan 107 = .ok (.invokevirtual 388, 3) := by decide +kernel
theorem dX11_plan_110 : decode cX11_plan 110 = .ok (.ireturn, 1) := by decide +kernel
theorem dX11_isDay_0 : decode cX11_isDay 0 = .ok (.iload_n 1, 1) := by decide +kernel
theorem dX11_isDay_1 : decode cX11_isDay 1 = .ok (.iconst 0, 1) := by decide +kernel
theorem dX11_isDay_2 : decode cX11_isDay 2 = .ok (.aload_n 0, 1) := by decide +kernel
theorem dX11_isDay_3 : decode cX11_isDay 3 = .ok (.getfield 320, 3) := by decide +kernel
theorem dX11_isDay_6 : decode cX11_isDay 6 = .ok (.iconst 1, 1) := by decide +kernel
theorem dX11_isDay_7 : decode cX11_isDay 7 = .ok (.isub, 1) := by decide +kernel
theorem dX11_isDay_8 : decode cX11_isDay 8 = .ok (.invokestatic 106, 3) := by decide +kernel
theorem dX11_isDay_11 : decode cX11_isDay 11 = .ok (.ireturn, 1) := by decide +kernel
theorem dX11_at_0 : decode cX11_at 0 = .ok (.aload_n 0, 1) := by decide +kernel
theorem dX11_at_1 : decode cX11_at 1 = .ok (.iconst 0, 1) := by decide +kernel
theorem dX11_at_2 : decode cX11_at 2 = .ok (.putfield 96, 3) := by decide +kernel
theorem dX11_at_5 : decode cX11_at 5 = .ok (.aload_n 0, 1) := by decide +kernel
theorem dX11_at_6 : decode cX11_at 6 = .ok (.iload_n 1, 1) := by decide +kernel
theorem dX11_at_7 : decode cX11_at 7 = .ok (.invokevirtual 391, 3) := by decide +kernel
theorem dX11_at_10 : decode cX11_at 10 = .ok (.ifCond .eq 20, 3) := by decide +kernel
theorem dX11_at_13 : decode cX11_at 13 = .ok (.aload_n 0, 1) := by decide +kernel
theorem dX11_at_14 : decode cX11_at 14 = .ok (.iload_n 2, 1) := by decide +kernel
theorem dX11_at_15 : decode cX11_at 15 = .ok (.invokevirtual 353, 3) := by decide +kernel
theorem dX11_at_18 : decode cX11_at 18 = .ok (.ifCond .eq 12, 3) := by decide +kernel
theorem dX11_at_21 : decode cX11_at 21 = .ok (.aload_n 0, 1) := by decide +kernel
theorem dX11_at_22 : decode cX11_at 22 = .ok (.iload_n 1, 1) := by decide +kernel
theorem dX11_at_23 : decode cX11_at 23 = .ok (.iload_n 2, 1) := by decide +kernel
theorem dX11_at_24 : decode cX11_at 24 = .ok (.invokevirtual 362, 3) := by decide +kernel
theorem dX11_at_27 : decode cX11_at 27 = .ok (.goto 8, 3) := by decide +kernel
theorem dX11_at_30 : decode cX11_at 30 = .ok (.aload_n 0, 1) := by decide +kernel
theorem dX11_at_31 : decode cX11_at 31 = .ok (.iconst 1, 1) := by decide +kernel
theorem dX11_at_32 : decode cX11_at 32 = .ok (.invokevirtual 102, 3) := by decide +kernel
theorem dX11_at_35 : decode cX11_at 35 = .ok (.ireturn, 1) := by decide +kernel
theorem dX11_set_0 : decode cX11_set 0 = .ok (.aload_n 0, 1) := by decide +kernel
theorem dX11_set_1 : decode cX11_set 1 = .ok (.iconst 0, 1) := by decide +kernel
theorem dX11_set_2 : decode cX11_set 2 = .ok (.putfield 96, 3) := by decide +kernel
theorem dX11_set_5 : decode cX11_set 5 = .ok (.aload_n 0, 1) := by decide +kernel
theorem dX11_set_6 : decode cX11_set 6 = .ok (.iload_n 1, 1) := by decide +kernel
theorem dX11_set_7 : decode cX11_set 7 = .ok (.invokevirtual 391, 3) := by decide +kernel
theorem dX11_set_10 : decode cX11_set 10 = .ok (.ifCond .eq 25, 3) := by decide +kernel
theorem dX11_set_13 : decode cX11_set 13 = .ok (.aload_n 0, 1) := by decide +kernel
theorem dX11_set_14 : decode cX11_set 14 = .ok (.iload_n 2, 1) := by decide +kernel
theorem dX11_set_15 : decode cX11_set 15 = .ok (.invokevirtual 353, 3) := by decide +kernel
theorem dX11_set_18 : decode cX11_set 18 = .ok (.ifCond .eq 17, 3) := by decide +kernel
theorem dX11_set_21 : decode cX11_set 21 = .ok (.iload_n 3, 1) := by decide +kernel
theorem dX11_set_22 : decode cX11_set 22 = .ok (.iconst (-1), 1) := by decide +kernel
theorem dX11_set_23 : decode cX11_set 23 = .ok (.aload_n 0, 1) := by decide +kernel
theorem dX11_set_24 : decode cX11_set 24 = .ok (.getfield 247, 3) := by decide +kernel
theorem dX11_set_27 : decode cX11_set 27 = .ok (.iconst 1, 1) := by decide +kernel
theorem dX11_set_28 : decode cX11_set 28 = .ok (.isub, 1) := by decide +kernel
theorem dX11_set_29 : decode cX11_set 29 = .ok (.invokestatic 106, 3) := by decide +kernel
theorem dX11_set_32 : decode cX11_set 32 = .ok (.ifCond .ne 9, 3) := by decide +kernel
theorem dX11_set_35 : decode cX11_set 35 = .ok (.aload_n 0, 1) := by decide +kernel
theorem dX11_set_36 : decode cX11_set 36 = .ok (.iconst 1, 1) := by decide +kernel
theorem dX11_set_37 : decode cX11_set 37 = .ok (.invokevirtual 102, 3) := by decide +kernel
theorem dX11_set_40 : decode cX11_set 40 = .ok (.ireturn, 1) := by decide +kernel
theorem dX11_set_41 : decode cX11_set 41 = .ok (.iload_n 3, 1) := by decide +kernel
theorem dX11_set_42 : decode cX11_set 42 = .ok (.iconst (-1), 1) := by decide +kernel
theorem dX11_set_43 : decode cX11_set 43 = .ok (.if_icmp .eq 22, 3) := by decide +kernel
theorem dX11_set_46 : decode cX11_set 46 = .ok (.aload_n 0, 1) := by decide +kernel
theorem dX11_set_47 : decode cX11_set 47 = .ok (.getfield 66, 3) := by decide +kernel
theorem dX11_set_50 : decode cX11_set 50 = .ok (.iload_n 2, 1) := by decide +kernel
theorem dX11_set_51 : decode cX11_set 51 = .ok (.iaload, 1) := by decide +kernel
theorem dX11_set_52 : decode cX11_set 52 = .ok (.iload_n 3, 1) := by decide +kernel
theorem dX11_set_53 : decode cX11_set 53 = .ok (.ishr, 1) := by decide +kernel
theorem dX11_set_54 : decode cX11_set 54 = .ok (.iconst 1, 1) := by decide +kernel
theorem dX11_set_55 : decode cX11_set 55 = .ok (.iand, 1) := by decide +kernel
theorem dX11_set_56 : decode cX11_set 56 = .ok (.ifCond .ne 9, 3) := by decide +kernel
theorem dX11_set_59 : decode cX11_set 59 = .ok (.aload_n 0, 1) := by decide +kernel
theorem dX11_set_60 : decode cX11_set 60 = .ok (.iconst 2, 1) := by decide +kernel
theorem dX11_set_61 : decode cX11_set 61 = .ok (.invokevirtual 102, 3) := by decide +kernel
theorem dX11_set_64 : decode cX11_set 64 = .ok (.ireturn, 1) := by decide +kernel
theorem dX11_set_65 : decode cX11_set 65 = .ok (.aload_n 0, 1) := by decide +kernel
theorem dX11_set_66 : decode cX11_set 66 = .ok (.iload_n 1, 1) := by decide +kernel
theorem dX11_set_67 : decode cX11_set 67 = .ok (.iload_n 2, 1) := by decide +kernel
theorem dX11_set_68 : decode cX11_set 68 = .ok (.invokevirtual 362, 3) := by decide +kernel
theorem dX11_set_71 : decode cX11_set 71 = .ok (.istore 4, 2) := by decide +kernel
theorem dX11_set_73 : decode cX11_set 73 = .ok (.aload_n 0, 1) := by decide +kernel
theorem dX11_set_74 : decode cX11_set 74 = .ok (.getfield 93, 3) := by decide +kernel
theorem dX11_set_77 : decode cX11_set 77 = .ok (.bipush 8, 2) := by decide +kernel
theorem dX11_set_79 : decode cX11_set 79 = .ok (.iload_n 1, 1) := by decide +kernel
theorem dX11_set_80 : decode cX11_set 80 = .ok (.imul, 1) := by decide +kernel
theorem dX11_set_81 : decode cX11_set 81 = .ok (.iload_n 2, 1) := by decide +kernel
theorem dX11_set_82 : decode cX11_set 82 = .ok (.iadd, 1) := by decide +kernel
theorem dX11_set_83 : decode cX11_set 83 = .ok (.iload_n 3, 1) := by decide +kernel
theorem dX11_set_84 : decode cX11_set 84 = .ok (.iastore, 1) := by decide +kernel
theorem dX11_set_85 : decode cX11_set 85 = .ok (.iload 4, 2) := by decide +kernel
theorem dX11_set_87 : decode cX11_set 87 = .ok (.ireturn, 1) := by decide +kernel
theorem dX11_faults_0 : decode cX11_faults 0 = .ok (.aload_n 0, 1) := by decide +kernel
theorem dX11_faults_1 : decode cX11_faults 1 = .ok (.iconst 0, 1) := by decide +kernel
theorem dX11_faults_2 : decode cX11_faults 2 = .ok (.putfield 96, 3) := by decide +kernel
theorem dX11_faults_5 : decode cX11_faults 5 = .ok (.aload_n 0, 1) := by decide +kernel
theorem dX11_faults_6 : decode cX11_faults 6 = .ok (.invokevirtual 388, 3) := by decide +kernel
theorem dX11_faults_9 : decode cX11_faults 9 = .ok (.ireturn, 1) := by decide +kernel
theorem dX11_faultsOf_0 : decode cX11_faultsOf 0 = .ok (.aload_n 0, 1) := by decide +kernel
theorem dX11_faultsOf_1 : decode cX11_faultsOf 1 = .ok (.iconst 0, 1) := by decide +kernel
theorem dX11_faultsOf_2 : decode cX11_faultsOf 2 = .ok (.putfield 96, 3) := by decide +kernel
theorem dX11_faultsOf_5 : decode cX11_faultsOf 5 = .ok (.iload_n 1, 1) := by decide +kernel
theorem dX11_faultsOf_6 : decode cX11_faultsOf 6 = .ok (.iconst 0, 1) := by decide +kernel
theorem dX11_faultsOf_7 : decode cX11_faultsOf 7 = .ok (.aload_n 0, 1) := by decide +kernel
theorem dX11_faultsOf_8 : decode cX11_faultsOf 8 = .ok (.getfield 298, 3) := by decide +kernel
theorem dX11_faultsOf_11 : decode cX11_faultsOf 11 = .ok (.iconst 1, 1) := by decide +kernel
theorem dX11_faultsOf_12 : decode cX11_faultsOf 12 = .ok (.isub, 1) := by decide +kernel
theorem dX11_faultsOf_13 : decode cX11_faultsOf 13 = .ok (.invokestatic 106, 3) := by decide +kernel
theorem dX11_faultsOf_16 : decode cX11_faultsOf 16 = .ok (.ifCond .eq 11, 3) := by decide +kernel
theorem dX11_faultsOf_19 : decode cX11_faultsOf 19 = .ok (.aload_n 0, 1) := by decide +kernel
theorem dX11_faultsOf_20 : decode cX11_faultsOf 20 = .ok (.iload_n 1, 1) := by decide +kernel
theorem dX11_faultsOf_21 : decode cX11_faultsOf 21 = .ok (.invokevirtual 376, 3) := by decide +kernel
theorem dX11_faultsOf_24 : decode cX11_faultsOf 24 = .ok (.goto 8, 3) := by decide +kernel
theorem dX11_faultsOf_27 : decode cX11_faultsOf 27 = .ok (.aload_n 0, 1) := by decide +kernel
theorem dX11_faultsOf_28 : decode cX11_faultsOf 28 = .ok (.iconst 1, 1) := by decide +kernel
theorem dX11_faultsOf_29 : decode cX11_faultsOf 29 = .ok (.invokevirtual 102, 3) := by decide +kernel
theorem dX11_faultsOf_32 : decode cX11_faultsOf 32 = .ok (.ireturn, 1) := by decide +kernel
theorem dX11_improve_0 : decode cX11_improve 0 = .ok (.aload_n 0, 1) := by decide +kernel
theorem dX11_improve_1 : decode cX11_improve 1 = .ok (.iconst 0, 1) := by decide +kernel
theorem dX11_improve_2 : decode cX11_improve 2 = .ok (.putfield 96, 3) := by decide +kernel
theorem dX11_improve_5 : decode cX11_improve 5 = .ok (.aload_n 0, 1) := by decide +kernel
theorem dX11_improve_6 : decode cX11_improve 6 = .ok (.invokevirtual 388, 3) := by decide +kernel
theorem dX11_improve_9 : decode cX11_improve 9 = .ok (.istore_n 1, 1) := by decide +kernel
theorem dX11_improve_10 : decode cX11_improve 10 = .ok (.iconst (-1), 1) := by decide +kernel
theorem dX11_improve_11 : decode cX11_improve 11 = .ok (.istore_n 2, 1) := by decide +kernel
theorem dX11_improve_12 : decode cX11_improve 12 = .ok (.iconst (-1), 1) := by decide +kernel
theorem dX11_improve_13 : decode cX11_improve 13 = .ok (.istore_n 3, 1) := by decide +kernel
theorem dX11_improve_14 : decode cX11_improve 14 = .ok (.iconst 0, 1) := by decide +kernel
theorem dX11_improve_15 : decode cX11_improve 15 = .ok (.istore 4, 2) := by decide +kernel
theorem dX11_improve_17 : decode cX11_improve 17 = .ok (.iload 4, 2) := by decide +kernel
theorem dX11_improve_19 : decode cX11_improve 19 = .ok (.aload_n 0, 1) := by decide +kernel
theorem dX11_improve_20 : decode cX11_improve 20 = .ok (.getfield 320, 3) := by decide +kernel
theorem dX11_improve_23 : decode cX11_improve 23 = .ok (.if_icmp .ge 133, 3) := by decide +kernel
theorem dX11_improve_26 : decode cX11_improve 26 = .ok (.iconst 0, 1) := by decide +kernel
theorem dX11_improve_27 : decode cX11_improve 27 = .ok (.istore 5, 2) := by decide +kernel
theorem dX11_improve_29 : decode cX11_improve 29 = .ok (.iload 5, 2) := by decide +kernel
theorem dX11_improve_31 : decode cX11_improve 31 = .ok (.aload_n 0, 1) := by decide +kernel
theorem dX11_improve_32 : decode cX11_improve 32 = .ok (.getfield 289, 3) := by decide +kernel
theorem dX11_improve_35 : decode cX11_improve 35 = .ok (.if_icmp .ge 115, 3) := by decide +kernel
theorem dX11_improve_38 : decode cX11_improve 38 = .ok (.iconst 0, 1) := by decide +kernel
theorem dX11_improve_39 : decode cX11_improve 39 = .ok (.istore 6, 2) := by decide +kernel
theorem dX11_improve_41 : decode cX11_improve 41 = .ok (.iload 6, 2) := by decide +kernel
theorem dX11_improve_43 : decode cX11_improve 43 = .ok (.aload_n 0, 1) := by decide +kernel
theorem dX11_improve_44 : decode cX11_improve 44 = .ok (.getfield 247, 3) := by decide +kernel
theorem dX11_improve_47 : decode cX11_improve 47 = .ok (.if_icmp .ge 97, 3) := by decide +kernel
theorem dX11_improve_50 : decode cX11_improve 50 = .ok (.aload_n 0, 1) := by decide +kernel
theorem dX11_improve_51 : decode cX11_improve 51 = .ok (.getfield 66, 3) := by decide +kernel
theorem dX11_improve_54 : decode cX11_improve 54 = .ok (.iload 5, 2) := by decide +kernel
theorem dX11_improve_56 : decode cX11_improve 56 = .ok (.iaload, 1) := by decide +kernel
theorem dX11_improve_57 : decode cX11_improve 57 = .ok (.iload 6, 2) := by decide +kernel
theorem dX11_improve_59 : decode cX11_improve 59 = .ok (.ishr, 1) := by decide +kernel
theorem dX11_improve_60 : decode cX11_improve 60 = .ok (.iconst 1, 1) := by decide +kernel
theorem dX11_improve_61 : decode cX11_improve 61 = .ok (.iand, 1) := by decide +kernel
theorem dX11_improve_62 : decode cX11_improve 62 = .ok (.ifCond .ne 6, 3) := by decide +kernel
theorem dX11_improve_65 : decode cX11_improve 65 = .ok (.goto 73, 3) := by decide +kernel
theorem dX11_improve_68 : decode cX11_improve 68 = .ok (.aload_n 0, 1) := by decide +kernel
theorem dX11_improve_69 : decode cX11_improve 69 = .ok (.iload 4, 2) := by decide +kernel
theorem dX11_improve_71 : decode cX11_improve 71 = .ok (.iload 5, 2) := by decide +kernel
theorem dX11_improve_73 : decode cX11_improve 73 = .ok (.invokevirtual 362, 3) := by decide +kernel
theorem dX11_improve_76 : decode cX11_improve 76 = .ok (.istore 7, 2) := by decide +kernel
theorem dX11_improve_78 : decode cX11_improve 78 = .ok (.aload_n 0, 1) := by decide +kernel
theorem dX11_improve_79 : decode cX11_improve 79 = .ok (.getfield 93, 3) := by decide +kernel
theorem dX11_improve_82 : decode cX11_improve 82 = .ok (.bipush 8, 2) := by decide +kernel
theorem dX11_improve_84 : decode cX11_improve 84 = .ok (.iload 4, 2) := by decide +kernel
theorem dX11_improve_86 : decode cX11_improve 86 = .ok (.imul, 1) := by decide +kernel
theorem dX11_improve_87 : decode cX11_improve 87 = .ok (.iload 5, 2) := by decide +kernel
theorem dX11_improve_89 : decode cX11_improve 89 = .ok (.iadd, 1) := by decide +kernel
theorem dX11_improve_90 : decode cX11_improve 90 = .ok (.iload 6, 2) := by decide +kernel
theorem dX11_improve_92 : decode cX11_improve 92 = .ok (.iastore, 1) := by decide +kernel
theorem dX11_improve_93 : decode cX11_improve 93 = .ok (.aload_n 0, 1) := by decide +kernel
theorem dX11_improve_94 : decode cX11_improve 94 = .ok (.invokevirtual 388, 3) := by decide +kernel
theorem dX11_improve_97 : decode cX11_improve 97 = .ok (.istore 8, 2) := by decide +kernel
theorem dX11_improve_99 : decode cX11_improve 99 = .ok (.aload_n 0, 1) := by decide +kernel
theorem dX11_improve_100 : decode cX11_improve 100 = .ok (.getfield 93, 3) := by decide +kernel
theorem dX11_improve_103 : decode cX11_improve 103 = .ok (.bipush 8, 2) := by decide +kernel
theorem dX11_improve_105 : decode cX11_improve 105 = .ok (.iload 4, 2) := by decide +kernel
theorem dX11_improve_107 : decode cX11_improve 107 = .ok (.imul, 1) := by decide +kernel
theorem dX11_improve_108 : decode cX11_improve 108 = .ok (.iload 5, 2) := by decide +kernel
theorem dX11_improve_110 : decode cX11_improve 110 = .ok (.iadd, 1) := by decide +kernel
theorem dX11_improve_111 : decode cX11_improve 111 = .ok (.iload 7, 2) := by decide +kernel
theorem dX11_improve_113 : decode cX11_improve 113 = .ok (.iastore, 1) := by decide +kernel
theorem dX11_improve_114 : decode cX11_improve 114 = .ok (.iload 8, 2) := by decide +kernel
theorem dX11_improve_116 : decode cX11_improve 116 = .ok (.iload_n 1, 1) := by decide +kernel
theorem dX11_improve_117 : decode cX11_improve 117 = .ok (.if_icmp .lt 6, 3) := by decide +kernel
theorem dX11_improve_120 : decode cX11_improve 120 = .ok (.goto 18, 3) := by decide +kernel
theorem dX11_improve_123 : decode cX11_improve 123 = .ok (.iload 8, 2) := by decide +kernel
theorem dX11_improve_125 : decode cX11_improve 125 = .ok (.istore_n 1, 1) := by decide +kernel
theorem dX11_improve_126 : decode cX11_improve 126 = .ok (.bipush 8, 2) := by decide +kernel
theorem dX11_improve_128 : decode cX11_improve 128 = .ok (.iload 4, 2) := by decide +kernel
theorem dX11_improve_130 : decode cX11_improve 130 = .ok (.imul, 1) := by decide +kernel
theorem dX11_improve_131 : decode cX11_improve 131 = .ok (.iload 5, 2) := by decide +kernel
theorem dX11_improve_133 : decode cX11_improve 133 = .ok (.iadd, 1) := by decide +kernel
theorem dX11_improve_134 : decode cX11_improve 134 = .ok (.istore_n 2, 1) := by decide +kernel
theorem dX11_improve_135 : decode cX11_improve 135 = .ok (.iload 6, 2) := by decide +kernel
theorem dX11_improve_137 : decode cX11_improve 137 = .ok (.istore_n 3, 1) := by decide +kernel
theorem dX11_improve_138 : decode cX11_improve 138 = .ok (.iinc 6 1, 3) := by decide +kernel
theorem dX11_improve_141 : decode cX11_improve 141 = .ok (.goto (-100), 3) := by decide +kernel
theorem dX11_improve_144 : decode cX11_improve 144 = .ok (.iinc 5 1, 3) := by decide +kernel
theorem dX11_improve_147 : decode cX11_improve 147 = .ok (.goto (-118), 3) := by decide +kernel
theorem dX11_improve_150 : decode cX11_improve 150 = .ok (.iinc 4 1, 3) := by decide +kernel
theorem dX11_improve_153 : decode cX11_improve 153 = .ok (.goto (-136), 3) := by decide +kernel
theorem dX11_improve_156 : decode cX11_improve 156 = .ok (.iload_n 2, 1) := by decide +kernel
theorem dX11_improve_157 : decode cX11_improve 157 = .ok (.iconst (-1), 1) := by decide +kernel
theorem dX11_improve_158 : decode cX11_improve 158 = .ok (.if_icmp .eq 10, 3) := by decide +kernel
theorem dX11_improve_161 : decode cX11_improve 161 = .ok (.aload_n 0, 1) := by decide +kernel
theorem dX11_improve_162 : decode cX11_improve 162 = .ok (.getfield 93, 3) := by decide +kernel
theorem dX11_improve_165 : decode cX11_improve 165 = .ok (.iload_n 2, 1) := by decide +kernel
theorem dX11_improve_166 : decode cX11_improve 166 = .ok (.iload_n 3, 1) := by decide +kernel
theorem dX11_improve_167 : decode cX11_improve 167 = .ok (.iastore, 1) := by decide +kernel
theorem dX11_improve_168 : decode cX11_improve 168 = .ok (.iload_n 1, 1) := by decide +kernel
theorem dX11_improve_169 : decode cX11_improve 169 = .ok (.ireturn, 1) := by decide +kernel
theorem dX11_exchange_0 : decode cX11_exchange 0 = .ok (.aload_n 0, 1) := by decide +kernel
theorem dX11_exchange_1 : decode cX11_exchange 1 = .ok (.iconst 0, 1) := by decide +kernel
theorem dX11_exchange_2 : decode cX11_exchange 2 = .ok (.putfield 96, 3) := by decide +kernel
theorem dX11_exchange_5 : decode cX11_exchange 5 = .ok (.aload_n 0, 1) := by decide +kernel
theorem dX11_exchange_6 : decode cX11_exchange 6 = .ok (.iload_n 1, 1) := by decide +kernel
theorem dX11_exchange_7 : decode cX11_exchange 7 = .ok (.invokevirtual 391, 3) := by decide +kernel
theorem dX11_exchange_10 : decode cX11_exchange 10 = .ok (.ifCond .eq 11, 3) := by decide +kernel
theorem dX11_exchange_13 : decode cX11_exchange 13 = .ok (.aload_n 0, 1) := by decide +kernel
theorem dX11_exchange_14 : decode cX11_exchange 14 = .ok (.iload_n 2, 1) := by decide +kernel
theorem dX11_exchange_15 : decode cX11_exchange 15 = .ok (.invokevirtual 391, 3) := by decide +kernel
theorem dX11_exchange_18 : decode cX11_exchange 18 = .ok (.ifCond .ne 9, 3) := by decide +kernel
theorem dX11_exchange_21 : decode cX11_exchange 21 = .ok (.aload_n 0, 1) := by decide +kernel
theorem dX11_exchange_22 : decode cX11_exchange 22 = .ok (.iconst 1, 1) := by decide +kernel
theorem dX11_exchange_23 : decode cX11_exchange 23 = .ok (.invokevirtual 102, 3) := by decide +kernel
theorem dX11_exchange_26 : decode cX11_exchange 26 = .ok (.ireturn, 1) := by decide +kernel
theorem dX11_exchange_27 : decode cX11_exchange 27 = .ok (.iload_n 1, 1) := by decide +kernel
theorem dX11_exchange_28 : decode cX11_exchange 28 = .ok (.iload_n 2, 1) := by decide +kernel
theorem dX11_exchange_29 : decode cX11_exchange 29 = .ok (.if_icmp .ne 9, 3) := by decide +kernel
theorem dX11_exchange_32 : decode cX11_exchange 32 = .ok (.aload_n 0, 1) := by decide +kernel
theorem dX11_exchange_33 : decode cX11_exchange 33 = .ok (.iconst 2, 1) := by decide +kernel
theorem dX11_exchange_34 : decode cX11_exchange 34 = .ok (.invokevirtual 102, 3) := by decide +kernel
theorem dX11_exchange_37 : decode cX11_exchange 37 = .ok (.ireturn, 1) := by decide +kernel
theorem dX11_exchange_38 : decode cX11_exchange 38 = .ok (.iconst 0, 1) := by decide +kernel
theorem dX11_exchange_39 : decode cX11_exchange 39 = .ok (.istore_n 3, 1) := by decide +kernel
theorem dX11_exchange_40 : decode cX11_exchange 40 = .ok (.iload_n 3, 1) := by decide +kernel
theorem dX11_exchange_41 : decode cX11_exchange 41 = .ok (.aload_n 0, 1) := by decide +kernel
theorem dX11_exchange_42 : decode cX11_exchange 42 = .ok (.getfield 289, 3) := by decide +kernel
theorem dX11_exchange_45 : decode cX11_exchange 45 = .ok (.if_icmp .ge 47, 3) := by decide +kernel
theorem dX11_exchange_48 : decode cX11_exchange 48 = .ok (.aload_n 0, 1) := by decide +kernel
theorem dX11_exchange_49 : decode cX11_exchange 49 = .ok (.iload_n 1, 1) := by decide +kernel
theorem dX11_exchange_50 : decode cX11_exchange 50 = .ok (.iload_n 3, 1) := by decide +kernel
theorem dX11_exchange_51 : decode cX11_exchange 51 = .ok (.invokevirtual 362, 3) := by decide +kernel
theorem dX11_exchange_54 : decode cX11_exchange 54 = .ok (.istore 4, 2) := by decide +kernel
theorem dX11_exchange_56 : decode cX11_exchange 56 = .ok (.aload_n 0, 1) := by decide +kernel
theorem dX11_exchange_57 : decode cX11_exchange 57 = .ok (.getfield 93, 3) := by decide +kernel
theorem dX11_exchange_60 : decode cX11_exchange 60 = .ok (.bipush 8, 2) := by decide +kernel
theorem dX11_exchange_62 : decode cX11_exchange 62 = .ok (.iload_n 1, 1) := by decide +kernel
theorem dX11_exchange_63 : decode cX11_exchange 63 = .ok (.imul, 1) := by decide +kernel
theorem dX11_exchange_64 : decode cX11_exchange 64 = .ok (.iload_n 3, 1) := by decide +kernel
theorem dX11_exchange_65 : decode cX11_exchange 65 = .ok (.iadd, 1) := by decide +kernel
theorem dX11_exchange_66 : decode cX11_exchange 66 = .ok (.aload_n 0, 1) := by decide +kernel
theorem dX11_exchange_67 : decode cX11_exchange 67 = .ok (.iload_n 2, 1) := by decide +kernel
theorem dX11_exchange_68 : decode cX11_exchange 68 = .ok (.iload_n 3, 1) := by decide +kernel
theorem dX11_exchange_69 : decode cX11_exchange 69 = .ok (.invokevirtual 362, 3) := by decide +kernel
theorem dX11_exchange_72 : decode cX11_exchange 72 = .ok (.iastore, 1) := by decide +kernel
theorem dX11_exchange_73 : decode cX11_exchange 73 = .ok (.aload_n 0, 1) := by decide +kernel
theorem dX11_exchange_74 : decode cX11_exchange 74 = .ok (.getfield 93, 3) := by decide +kernel
theorem dX11_exchange_77 : decode cX11_exchange 77 = .ok (.bipush 8, 2) := by decide +kernel
theorem dX11_exchange_79 : decode cX11_exchange 79 = .ok (.iload_n 2, 1) := by decide +kernel
theorem dX11_exchange_80 : decode cX11_exchange 80 = .ok (.imul, 1) := by decide +kernel
theorem dX11_exchange_81 : decode cX11_exchange 81 = .ok (.iload_n 3, 1) := by decide +kernel
theorem dX11_exchange_82 : decode cX11_exchange 82 = .ok (.iadd, 1) := by decide +kernel
theorem dX11_exchange_83 : decode cX11_exchange 83 = .ok (.iload 4, 2) := by decide +kernel
theorem dX11_exchange_85 : decode cX11_exchange 85 = .ok (.iastore, 1) := by decide +kernel
theorem dX11_exchange_86 : decode cX11_exchange 86 = .ok (.iinc 3 1, 3) := by decide +kernel
theorem dX11_exchange_89 : decode cX11_exchange 89 = .ok (.goto (-49), 3) := by decide +kernel
theorem dX11_exchange_92 : decode cX11_exchange 92 = .ok (.aload_n 0, 1) := by decide +kernel
theorem dX11_exchange_93 : decode cX11_exchange 93 = .ok (.invokevirtual 388, 3) := by decide +kernel
theorem dX11_exchange_96 : decode cX11_exchange 96 = .ok (.ireturn, 1) := by decide +kernel
theorem dX11_day_0 : decode cX11_day 0 = .ok (.aload_n 0, 1) := by decide +kernel
theorem dX11_day_1 : decode cX11_day 1 = .ok (.iconst 0, 1) := by decide +kernel
theorem dX11_day_2 : decode cX11_day 2 = .ok (.putfield 96, 3) := by decide +kernel
theorem dX11_day_5 : decode cX11_day 5 = .ok (.aload_n 0, 1) := by decide +kernel
theorem dX11_day_6 : decode cX11_day 6 = .ok (.iload_n 1, 1) := by decide +kernel
theorem dX11_day_7 : decode cX11_day 7 = .ok (.invokevirtual 391, 3) := by decide +kernel
theorem dX11_day_10 : decode cX11_day 10 = .ok (.ifCond .eq 12, 3) := by decide +kernel
theorem dX11_day_13 : decode cX11_day 13 = .ok (.aload_n 0, 1) := by decide +kernel
theorem dX11_day_14 : decode cX11_day 14 = .ok (.iload_n 1, 1) := by decide +kernel
theorem dX11_day_15 : decode cX11_day 15 = .ok (.iload_n 2, 1) := by decide +kernel
theorem dX11_day_16 : decode cX11_day 16 = .ok (.invokevirtual 368, 3) := by decide +kernel
theorem dX11_day_19 : decode cX11_day 19 = .ok (.goto 8, 3) := by decide +kernel
theorem dX11_day_22 : decode cX11_day 22 = .ok (.aload_n 0, 1) := by decide +kernel
theorem dX11_day_23 : decode cX11_day 23 = .ok (.iconst 1, 1) := by decide +kernel
theorem dX11_day_24 : decode cX11_day 24 = .ok (.invokevirtual 102, 3) := by decide +kernel
theorem dX11_day_27 : decode cX11_day 27 = .ok (.ireturn, 1) := by decide +kernel
theorem dX11_times_0 : decode cX11_times 0 = .ok (.aload_n 0, 1) := by decide +kernel
theorem dX11_times_1 : decode cX11_times 1 = .ok (.iconst 0, 1) := by decide +kernel
theorem dX11_times_2 : decode cX11_times 2 = .ok (.putfield 96, 3) := by decide +kernel
theorem dX11_times_5 : decode cX11_times 5 = .ok (.iload_n 1, 1) := by decide +kernel
theorem dX11_times_6 : decode cX11_times 6 = .ok (.iconst 0, 1) := by decide +kernel
theorem dX11_times_7 : decode cX11_times 7 = .ok (.aload_n 0, 1) := by decide +kernel
theorem dX11_times_8 : decode cX11_times 8 = .ok (.getfield 247, 3) := by decide +kernel
theorem dX11_times_11 : decode cX11_times 11 = .ok (.iconst 1, 1) := by decide +kernel
theorem dX11_times_12 : decode cX11_times 12 = .ok (.isub, 1) := by decide +kernel
theorem dX11_times_13 : decode cX11_times 13 = .ok (.invokestatic 106, 3) := by decide +kernel
theorem dX11_times_16 : decode cX11_times 16 = .ok (.ifCond .eq 11, 3) := by decide +kernel
theorem dX11_times_19 : decode cX11_times 19 = .ok (.aload_n 0, 1) := by decide +kernel
theorem dX11_times_20 : decode cX11_times 20 = .ok (.iload_n 1, 1) := by decide +kernel
theorem dX11_times_21 : decode cX11_times 21 = .ok (.invokevirtual 382, 3) := by decide +kernel
theorem dX11_times_24 : decode cX11_times 24 = .ok (.goto 8, 3) := by decide +kernel
theorem dX11_times_27 : decode cX11_times 27 = .ok (.aload_n 0, 1) := by decide +kernel
theorem dX11_times_28 : decode cX11_times 28 = .ok (.iconst 1, 1) := by decide +kernel
theorem dX11_times_29 : decode cX11_times 29 = .ok (.invokevirtual 102, 3) := by decide +kernel
theorem dX11_times_32 : decode cX11_times 32 = .ok (.ireturn, 1) := by decide +kernel
theorem dX11_buy_0 : decode cX11_buy 0 = .ok (.aload_n 0, 1) := by decide +kernel
theorem dX11_buy_1 : decode cX11_buy 1 = .ok (.iload_n 1, 1) := by decide +kernel
theorem dX11_buy_2 : decode cX11_buy 2 = .ok (.iconst 0, 1) := by decide +kernel
theorem dX11_buy_3 : decode cX11_buy 3 = .ok (.aload_n 0, 1) := by decide +kernel
theorem dX11_buy_4 : decode cX11_buy 4 = .ok (.getfield 240, 3) := by decide +kernel
theorem dX11_buy_7 : decode cX11_buy 7 = .ok (.iconst 1, 1) := by decide +kernel
theorem dX11_buy_8 : decode cX11_buy 8 = .ok (.isub, 1) := by decide +kernel
theorem dX11_buy_9 : decode cX11_buy 9 = .ok (.invokestatic 106, 3) := by decide +kernel
theorem dX11_buy_12 : decode cX11_buy 12 = .ok (.ifCond .ne 7, 3) := by decide +kernel
theorem dX11_buy_15 : decode cX11_buy 15 = .ok (.iconst 1, 1) := by decide +kernel
theorem dX11_buy_16 : decode cX11_buy 16 = .ok (.goto 19, 3) := by decide +kernel
theorem dX11_buy_19 : decode cX11_buy 19 = .ok (.iload_n 2, 1) := by decide +kernel
theorem dX11_buy_20 : decode cX11_buy 20 = .ok (.iconst 1, 1) := by decide +kernel
theorem dX11_buy_21 : decode cX11_buy 21 = .ok (.sipush 1000, 3) := by decide +kernel
theorem dX11_buy_24 : decode cX11_buy 24 = .ok (.invokestatic 106, 3) := by decide +kernel
theorem dX11_buy_27 : decode cX11_buy 27 = .ok (.ifCond .ne 7, 3) := by decide +kernel
theorem dX11_buy_30 : decode cX11_buy 30 = .ok (.iconst 2, 1) := by decide +kernel
theorem dX11_buy_31 : decode cX11_buy 31 = .ok (.goto 4, 3) := by decide +kernel
theorem dX11_buy_34 : decode cX11_buy 34 = .ok (.iconst 0, 1) := by decide +kernel
theorem dX11_buy_35 : decode cX11_buy 35 = .ok (.putfield 96, 3) := by decide +kernel
theorem dX11_buy_38 : decode cX11_buy 38 = .ok (.aload_n 0, 1) := by decide +kernel
theorem dX11_buy_39 : decode cX11_buy 39 = .ok (.getfield 96, 3) := by decide +kernel
theorem dX11_buy_42 : decode cX11_buy 42 = .ok (.ifCond .eq 5, 3) := by decide +kernel
theorem dX11_buy_45 : decode cX11_buy 45 = .ok (.lconst 0, 1) := by decide +kernel
theorem dX11_buy_46 : decode cX11_buy 46 = .ok (.lreturn, 1) := by decide +kernel
theorem dX11_buy_47 : decode cX11_buy 47 = .ok (.lconst 0, 1) := by decide +kernel
theorem dX11_buy_48 : decode cX11_buy 48 = .ok (.lstore_n 3, 1) := by decide +kernel
theorem dX11_buy_49 : decode cX11_buy 49 = .ok (.iconst 0, 1) := by decide +kernel
theorem dX11_buy_50 : decode cX11_buy 50 = .ok (.istore 5, 2) := by decide +kernel
theorem dX11_buy_52 : decode cX11_buy 52 = .ok (.iload 5, 2) := by decide +kernel
theorem dX11_buy_54 : decode cX11_buy 54 = .ok (.aload_n 0, 1) := by decide +kernel
theorem dX11_buy_55 : decode cX11_buy 55 = .ok (.getfield 247, 3) := by decide +kernel
theorem dX11_buy_58 : decode cX11_buy 58 = .ok (.if_icmp .ge 44, 3) := by decide +kernel
theorem dX11_buy_61 : decode cX11_buy 61 = .ok (.lload_n 3, 1) := by decide +kernel
theorem dX11_buy_62 : decode cX11_buy 62 = .ok (.aload_n 0, 1) := by decide +kernel
theorem dX11_buy_63 : decode cX11_buy 63 = .ok (.iload 5, 2) := by decide +kernel
theorem dX11_buy_65 : decode cX11_buy 65 = .ok (.invokevirtual 382, 3) := by decide +kernel
theorem dX11_buy_68 : decode cX11_buy 68 = .ok (.i2l, 1) := by decide +kernel
theorem dX11_buy_69 : decode cX11_buy 69 = .ok (.iload_n 2, 1) := by decide +kernel
theorem dX11_buy_70 : decode cX11_buy 70 = .ok (.i2l, 1) := by decide +kernel
theorem dX11_buy_71 : decode cX11_buy 71 = .ok (.aload_n 0, 1) := by decide +kernel
theorem dX11_buy_72 : decode cX11_buy 72 = .ok (.getfield 57, 3) := by decide +kernel
theorem dX11_buy_75 : decode cX11_buy 75 = .ok (.bipush 16, 2) := by decide +kernel
theorem dX11_buy_77 : decode cX11_buy 77 = .ok (.iload 5, 2) := by decide +kernel
theorem dX11_buy_79 : decode cX11_buy 79 = .ok (.imul, 1) := by decide +kernel
theorem dX11_buy_80 : decode cX11_buy 80 = .ok (.iload_n 1, 1) := by decide +kernel
theorem dX11_buy_81 : decode cX11_buy 81 = .ok (.iadd, 1) := by decide +kernel
theorem dX11_buy_82 : decode cX11_buy 82 = .ok (.laload, 1) := by decide +kernel
theorem dX11_buy_83 : decode cX11_buy 83 = .ok (.lmul, 1) := by decide +kernel
theorem dX11_buy_84 : decode cX11_buy 84 = .ok (.aload_n 0, 1) := by decide +kernel
theorem dX11_buy_85 : decode cX11_buy 85 = .ok (.getfield 42, 3) := by decide +kernel
theorem dX11_buy_88 : decode cX11_buy 88 = .ok (.iload 5, 2) := by decide +kernel
theorem dX11_buy_90 : decode cX11_buy 90 = .ok (.iaload, 1) := by decide +kernel
theorem dX11_buy_91 : decode cX11_buy 91 = .ok (.i2l, 1) := by decide +kernel
theorem dX11_buy_92 : decode cX11_buy 92 = .ok (.ldiv, 1) := by decide +kernel
theorem dX11_buy_93 : decode cX11_buy 93 = .ok (.lmul, 1) := by decide +kernel
theorem dX11_buy_94 : decode cX11_buy 94 = .ok (.ladd, 1) := by decide +kernel
theorem dX11_buy_95 : decode cX11_buy 95 = .ok (.lstore_n 3, 1) := by decide +kernel
theorem dX11_buy_96 : decode cX11_buy 96 = .ok (.iinc 5 1, 3) := by decide +kernel
theorem dX11_buy_99 : decode cX11_buy 99 = .ok (.goto (-47), 3) := by decide +kernel
theorem dX11_buy_102 : decode cX11_buy 102 = .ok (.lload_n 3, 1) := by decide +kernel
theorem dX11_buy_103 : decode cX11_buy 103 = .ok (.lreturn, 1) := by decide +kernel
theorem dX11_meanPrice_0 : decode cX11_meanPrice 0 = .ok (.aload_n 0, 1) := by decide +kernel
theorem dX11_meanPrice_1 : decode cX11_meanPrice 1 = .ok (.iconst 0, 1) := by decide +kernel
theorem dX11_meanPrice_2 : decode cX11_meanPrice 2 = .ok (.putfield 96, 3) := by decide +kernel
theorem dX11_meanPrice_5 : decode cX11_meanPrice 5 = .ok (.iconst 0, 1) := by decide +kernel
theorem dX11_meanPrice_6 : decode cX11_meanPrice 6 = .ok (.istore_n 1, 1) := by decide +kernel
theorem dX11_meanPrice_7 : decode cX11_meanPrice 7 = .ok (.iconst 0, 1) := by decide +kernel
theorem dX11_meanPrice_8 : decode cX11_meanPrice 8 = .ok (.istore_n 2, 1) := by decide +kernel
theorem dX11_meanPrice_9 : decode cX11_meanPrice 9 = .ok (.iconst 0, 1) := by decide +kernel
theorem dX11_meanPrice_10 : decode cX11_meanPrice 10 = .ok (.istore_n 3, 1) := by decide +kernel
theorem dX11_meanPrice_11 : decode cX11_meanPrice 11 = .ok (.iload_n 3, 1) := by decide +kernel
theorem dX11_meanPrice_12 : decode cX11_meanPrice 12 = .ok (.aload_n 0, 1) := by decide +kernel
theorem dX11_meanPrice_13 : decode cX11_meanPrice 13 = .ok (.getfield 247, 3) := by decide +kernel
theorem dX11_meanPrice_16 : decode cX11_meanPrice 16 = .ok (.if_icmp .ge 31, 3) := by decide +kernel
theorem dX11_meanPrice_19 : decode cX11_meanPrice 19 = .ok (.iload_n 1, 1) := by decide +kernel
theorem dX11_meanPrice_20 : decode cX11_meanPrice 20 = .ok (.aload_n 0, 1) := by decide +kernel
theorem dX11_meanPrice_21 : decode cX11_meanPrice 21 = .ok (.iload_n 3, 1) := by decide +kernel
theorem dX11_meanPrice_22 : decode cX11_meanPrice 22 = .ok (.invokevirtual 382, 3) := by decide +kernel
theorem dX11_meanPrice_25 : decode cX11_meanPrice 25 = .ok (.aload_n 0, 1) := by decide +kernel
theorem dX11_meanPrice_26 : decode cX11_meanPrice 26 = .ok (.iload_n 3, 1) := by decide +kernel
theorem dX11_meanPrice_27 : decode cX11_meanPrice 27 = .ok (.invokevirtual 347, 3) := by decide +kernel
theorem dX11_meanPrice_30 : decode cX11_meanPrice 30 = .ok (.imul, 1) := by decide +kernel
theorem dX11_meanPrice_31 : decode cX11_meanPrice 31 = .ok (.iadd, 1) := by decide +kernel
theorem dX11_meanPrice_32 : decode cX11_meanPrice 32 = .ok (.istore_n 1, 1) := by decide +kernel
theorem dX11_meanPrice_33 : decode cX11_meanPrice 33 = .ok (.iload_n 2, 1) := by decide +kernel
theorem dX11_meanPrice_34 : decode cX11_meanPrice 34 = .ok (.aload_n 0, 1) := by decide +kernel
theorem dX11_meanPrice_35 : decode cX11_meanPrice 35 = .ok (.iload_n 3, 1) := by decide +kernel
theorem dX11_meanPrice_36 : decode cX11_meanPrice 36 = .ok (.invokevirtual 382, 3) := by decide +kernel
theorem dX11_meanPrice_39 : decode cX11_meanPrice 39 = .ok (.iadd, 1) := by decide +kernel
theorem dX11_meanPrice_40 : decode cX11_meanPrice 40 = .ok (.istore_n 2, 1) := by decide +kernel
theorem dX11_meanPrice_41 : decode cX11_meanPrice 41 = .ok (.iinc 3 1, 3) := by decide +kernel
theorem dX11_meanPrice_44 : decode cX11_meanPrice 44 = .ok (.goto (-33), 3) := by decide +kernel
theorem dX11_meanPrice_47 : decode cX11_meanPrice 47 = .ok (.iload_n 2, 1) := by decide +kernel
theorem dX11_meanPrice_48 : decode cX11_meanPrice 48 = .ok (.ifCond .ne 7, 3) := by decide +kernel
theorem dX11_meanPrice_51 : decode cX11_meanPrice 51 = .ok (.dconst 0, 1) := by decide +kernel
theorem dX11_meanPrice_52 : decode cX11_meanPrice 52 = .ok (.goto 8, 3) := by decide +kernel
theorem dX11_meanPrice_55 : decode cX11_meanPrice 55 = .ok (.iload_n 1, 1) := by decide +kernel
theorem dX11_meanPrice_56 : decode cX11_meanPrice 56 = .ok (.i2d, 1) := by decide +kernel
theorem dX11_meanPrice_57 : decode cX11_meanPrice 57 = .ok (.iload_n 2, 1) := by decide +kernel
theorem dX11_meanPrice_58 : decode cX11_meanPrice 58 = .ok (.i2d, 1) := by decide +kernel
theorem dX11_meanPrice_59 : decode cX11_meanPrice 59 = .ok (.ddiv, 1) := by decide +kernel
theorem dX11_meanPrice_60 : decode cX11_meanPrice 60 = .ok (.dreturn, 1) := by decide +kernel
theorem dX11_digest_0 : decode cX11_digest 0 = .ok (.aload_n 0, 1) := by decide +kernel
theorem dX11_digest_1 : decode cX11_digest 1 = .ok (.iconst 0, 1) := by decide +kernel
theorem dX11_digest_2 : decode cX11_digest 2 = .ok (.putfield 96, 3) := by decide +kernel
theorem dX11_digest_5 : decode cX11_digest 5 = .ok (.ldc2_w 394, 3) := by decide +kernel
theorem dX11_digest_8 : decode cX11_digest 8 = .ok (.lstore_n 1, 1) := by decide +kernel
theorem dX11_digest_9 : decode cX11_digest 9 = .ok (.iconst 0, 1) := by decide +kernel
theorem dX11_digest_10 : decode cX11_digest 10 = .ok (.istore_n 3, 1) := by decide +kernel
theorem dX11_digest_11 : decode cX11_digest 11 = .ok (.iload_n 3, 1) := by decide +kernel
theorem dX11_digest_12 : decode cX11_digest 12 = .ok (.bipush 8, 2) := by decide +kernel
theorem dX11_digest_14 : decode cX11_digest 14 = .ok (.if_icmp .ge 22, 3) := by decide +kernel
theorem dX11_digest_17 : decode cX11_digest 17 = .ok (.lload_n 1, 1) := by decide +kernel
theorem dX11_digest_18 : decode cX11_digest 18 = .ok (.ldc2_w 396, 3) := by decide +kernel
theorem dX11_digest_21 : decode cX11_digest 21 = .ok (.lmul, 1) := by decide +kernel
theorem dX11_digest_22 : decode cX11_digest 22 = .ok (.aload_n 0, 1) := by decide +kernel
theorem dX11_digest_23 : decode cX11_digest 23 = .ok (.iload_n 3, 1) := by decide +kernel
theorem dX11_digest_24 : decode cX11_digest 24 = .ok (.invokevirtual 338, 3) := by decide +kernel
theorem dX11_digest_27 : decode cX11_digest 27 = .ok (.i2l, 1) := by decide +kernel
theorem dX11_digest_28 : decode cX11_digest 28 = .ok (.ladd, 1) := by decide +kernel
theorem dX11_digest_29 : decode cX11_digest 29 = .ok (.lstore_n 1, 1) := by decide +kernel
theorem dX11_digest_30 : decode cX11_digest 30 = .ok (.iinc 3 1, 3) := by decide +kernel
theorem dX11_digest_33 : decode cX11_digest 33 = .ok (.goto (-22), 3) := by decide +kernel
theorem dX11_digest_36 : decode cX11_digest 36 = .ok (.iconst 0, 1) := by decide +kernel
theorem dX11_digest_37 : decode cX11_digest 37 = .ok (.istore_n 3, 1) := by decide +kernel
theorem dX11_digest_38 : decode cX11_digest 38 = .ok (.iload_n 3, 1) := by decide +kernel
theorem dX11_digest_39 : decode cX11_digest 39 = .ok (.aload_n 0, 1) := by decide +kernel
theorem dX11_digest_40 : decode cX11_digest 40 = .ok (.getfield 240, 3) := by decide +kernel
theorem dX11_digest_43 : decode cX11_digest 43 = .ok (.if_icmp .ge 39, 3) := by decide +kernel
theorem dX11_digest_46 : decode cX11_digest 46 = .ok (.iconst 0, 1) := by decide +kernel
theorem dX11_digest_47 : decode cX11_digest 47 = .ok (.istore 4, 2) := by decide +kernel
theorem dX11_digest_49 : decode cX11_digest 49 = .ok (.iload 4, 2) := by decide +kernel
theorem dX11_digest_51 : decode cX11_digest 51 = .ok (.iconst 3, 1) := by decide +kernel
theorem dX11_digest_52 : decode cX11_digest 52 = .ok (.if_icmp .ge 24, 3) := by decide +kernel
theorem dX11_digest_55 : decode cX11_digest 55 = .ok (.lload_n 1, 1) := by decide +kernel
theorem dX11_digest_56 : decode cX11_digest 56 = .ok (.ldc2_w 396, 3) := by decide +kernel
theorem dX11_digest_59 : decode cX11_digest 59 = .ok (.lmul, 1) := by decide +kernel
theorem dX11_digest_60 : decode cX11_digest 60 = .ok (.aload_n 0, 1) := by decide +kernel
theorem dX11_digest_61 : decode cX11_digest 61 = .ok (.iload_n 3, 1) := by decide +kernel
theorem dX11_digest_62 : decode cX11_digest 62 = .ok (.iload 4, 2) := by decide +kernel
theorem dX11_digest_64 : decode cX11_digest 64 = .ok (.invokevirtual 341, 3) := by decide +kernel
theorem dX11_digest_67 : decode cX11_digest 67 = .ok (.i2l, 1) := by decide +kernel
theorem dX11_digest_68 : decode cX11_digest 68 = .ok (.ladd, 1) := by decide +kernel
theorem dX11_digest_69 : decode cX11_digest 69 = .ok (.lstore_n 1, 1) := by decide +kernel
theorem dX11_digest_70 : decode cX11_digest 70 = .ok (.iinc 4 1, 3) := by decide +kernel
theorem dX11_digest_73 : decode cX11_digest 73 = .ok (.goto (-24), 3) := by decide +kernel
theorem dX11_digest_76 : decode cX11_digest 76 = .ok (.iinc 3 1, 3) := by decide +kernel
theorem dX11_digest_79 : decode cX11_digest 79 = .ok (.goto (-41), 3) := by decide +kernel
theorem dX11_digest_82 : decode cX11_digest 82 = .ok (.iconst 0, 1) := by decide +kernel
theorem dX11_digest_83 : decode cX11_digest 83 = .ok (.istore_n 3, 1) := by decide +kernel
theorem dX11_digest_84 : decode cX11_digest 84 = .ok (.iload_n 3, 1) := by decide +kernel
theorem dX11_digest_85 : decode cX11_digest 85 = .ok (.aload_n 0, 1) := by decide +kernel
theorem dX11_digest_86 : decode cX11_digest 86 = .ok (.getfield 247, 3) := by decide +kernel
theorem dX11_digest_89 : decode cX11_digest 89 = .ok (.if_icmp .ge 39, 3) := by decide +kernel
theorem dX11_digest_92 : decode cX11_digest 92 = .ok (.iconst 0, 1) := by decide +kernel
theorem dX11_digest_93 : decode cX11_digest 93 = .ok (.istore 4, 2) := by decide +kernel
theorem dX11_digest_95 : decode cX11_digest 95 = .ok (.iload 4, 2) := by decide +kernel
theorem dX11_digest_97 : decode cX11_digest 97 = .ok (.iconst 5, 1) := by decide +kernel
theorem dX11_digest_98 : decode cX11_digest 98 = .ok (.if_icmp .ge 24, 3) := by decide +kernel
theorem dX11_digest_101 : decode cX11_digest 101 = .ok (.lload_n 1, 1) := by decide +kernel
theorem dX11_digest_102 : decode cX11_digest 102 = .ok (.ldc2_w 396, 3) := by decide +kernel
theorem dX11_digest_105 : decode cX11_digest 105 = .ok (.lmul, 1) := by decide +kernel
theorem dX11_digest_106 : decode cX11_digest 106 = .ok (.aload_n 0, 1) := by decide +kernel
theorem dX11_digest_107 : decode cX11_digest 107 = .ok (.iload_n 3, 1) := by decide +kernel
theorem dX11_digest_108 : decode cX11_digest 108 = .ok (.iload 4, 2) := by decide +kernel
theorem dX11_digest_110 : decode cX11_digest 110 = .ok (.invokevirtual 350, 3) := by decide +kernel
theorem dX11_digest_113 : decode cX11_digest 113 = .ok (.i2l, 1) := by decide +kernel
theorem dX11_digest_114 : decode cX11_digest 114 = .ok (.ladd, 1) := by decide +kernel
theorem dX11_digest_115 : decode cX11_digest 115 = .ok (.lstore_n 1, 1) := by decide +kernel
theorem dX11_digest_116 : decode cX11_digest 116 = .ok (.iinc 4 1, 3) := by decide +kernel
theorem dX11_digest_119 : decode cX11_digest 119 = .ok (.goto (-24), 3) := by decide +kernel
theorem dX11_digest_122 : decode cX11_digest 122 = .ok (.iinc 3 1, 3) := by decide +kernel
theorem dX11_digest_125 : decode cX11_digest 125 = .ok (.goto (-41), 3) := by decide +kernel
theorem dX11_digest_128 : decode cX11_digest 128 = .ok (.iconst 0, 1) := by decide +kernel
theorem dX11_digest_129 : decode cX11_digest 129 = .ok (.istore_n 3, 1) := by decide +kernel
theorem dX11_digest_130 : decode cX11_digest 130 = .ok (.iload_n 3, 1) := by decide +kernel
theorem dX11_digest_131 : decode cX11_digest 131 = .ok (.aload_n 0, 1) := by decide +kernel
theorem dX11_digest_132 : decode cX11_digest 132 = .ok (.getfield 289, 3) := by decide +kernel
theorem dX11_digest_135 : decode cX11_digest 135 = .ok (.if_icmp .ge 35, 3) := by decide +kernel
theorem dX11_digest_138 : decode cX11_digest 138 = .ok (.lload_n 1, 1) := by decide +kernel
theorem dX11_digest_139 : decode cX11_digest 139 = .ok (.ldc2_w 396, 3) := by decide +kernel
theorem dX11_digest_142 : decode cX11_digest 142 = .ok (.lmul, 1) := by decide +kernel
theorem dX11_digest_143 : decode cX11_digest 143 = .ok (.aload_n 0, 1) := by decide +kernel
theorem dX11_digest_144 : decode cX11_digest 144 = .ok (.getfield 63, 3) := by decide +kernel
theorem dX11_digest_147 : decode cX11_digest 147 = .ok (.iload_n 3, 1) := by decide +kernel
theorem dX11_digest_148 : decode cX11_digest 148 = .ok (.iaload, 1) := by decide +kernel
theorem dX11_digest_149 : decode cX11_digest 149 = .ok (.i2l, 1) := by decide +kernel
theorem dX11_digest_150 : decode cX11_digest 150 = .ok (.ladd, 1) := by decide +kernel
theorem dX11_digest_151 : decode cX11_digest 151 = .ok (.ldc2_w 396, 3) := by decide +kernel
theorem dX11_digest_154 : decode cX11_digest 154 = .ok (.lmul, 1) := by decide +kernel
theorem dX11_digest_155 : decode cX11_digest 155 = .ok (.aload_n 0, 1) := by decide +kernel
theorem dX11_digest_156 : decode cX11_digest 156 = .ok (.getfield 66, 3) := by decide +kernel
theorem dX11_digest_159 : decode cX11_digest 159 = .ok (.iload_n 3, 1) := by decide +kernel
theorem dX11_digest_160 : decode cX11_digest 160 = .ok (.iaload, 1) := by decide +kernel
theorem dX11_digest_161 : decode cX11_digest 161 = .ok (.i2l, 1) := by decide +kernel
theorem dX11_digest_162 : decode cX11_digest 162 = .ok (.ladd, 1) := by decide +kernel
theorem dX11_digest_163 : decode cX11_digest 163 = .ok (.lstore_n 1, 1) := by decide +kernel
theorem dX11_digest_164 : decode cX11_digest 164 = .ok (.iinc 3 1, 3) := by decide +kernel
theorem dX11_digest_167 : decode cX11_digest 167 = .ok (.goto (-37), 3) := by decide +kernel
theorem dX11_digest_170 : decode cX11_digest 170 = .ok (.iconst 0, 1) := by decide +kernel
theorem dX11_digest_171 : decode cX11_digest 171 = .ok (.istore_n 3, 1) := by decide +kernel
theorem dX11_digest_172 : decode cX11_digest 172 = .ok (.iload_n 3, 1) := by decide +kernel
theorem dX11_digest_173 : decode cX11_digest 173 = .ok (.aload_n 0, 1) := by decide +kernel
theorem dX11_digest_174 : decode cX11_digest 174 = .ok (.getfield 298, 3) := by decide +kernel
theorem dX11_digest_177 : decode cX11_digest 177 = .ok (.if_icmp .ge 39, 3) := by decide +kernel
theorem dX11_digest_180 : decode cX11_digest 180 = .ok (.iconst 0, 1) := by decide +kernel
theorem dX11_digest_181 : decode cX11_digest 181 = .ok (.istore 4, 2) := by decide +kernel
theorem dX11_digest_183 : decode cX11_digest 183 = .ok (.iload 4, 2) := by decide +kernel
theorem dX11_digest_185 : decode cX11_digest 185 = .ok (.iconst 4, 1) := by decide +kernel
theorem dX11_digest_186 : decode cX11_digest 186 = .ok (.if_icmp .ge 24, 3) := by decide +kernel
theorem dX11_digest_189 : decode cX11_digest 189 = .ok (.lload_n 1, 1) := by decide +kernel
theorem dX11_digest_190 : decode cX11_digest 190 = .ok (.ldc2_w 396, 3) := by decide +kernel
theorem dX11_digest_193 : decode cX11_digest 193 = .ok (.lmul, 1) := by decide +kernel
theorem dX11_digest_194 : decode cX11_digest 194 = .ok (.aload_n 0, 1) := by decide +kernel
theorem dX11_digest_195 : decode cX11_digest 195 = .ok (.iload_n 3, 1) := by decide +kernel
theorem dX11_digest_196 : decode cX11_digest 196 = .ok (.iload 4, 2) := by decide +kernel
theorem dX11_digest_198 : decode cX11_digest 198 = .ok (.invokevirtual 359, 3) := by decide +kernel
theorem dX11_digest_201 : decode cX11_digest 201 = .ok (.i2l, 1) := by decide +kernel
theorem dX11_digest_202 : decode cX11_digest 202 = .ok (.ladd, 1) := by decide +kernel
theorem dX11_digest_203 : decode cX11_digest 203 = .ok (.lstore_n 1, 1) := by decide +kernel
theorem dX11_digest_204 : decode cX11_digest 204 = .ok (.iinc 4 1, 3) := by decide +kernel
theorem dX11_digest_207 : decode cX11_digest 207 = .ok (.goto (-24), 3) := by decide +kernel
theorem dX11_digest_210 : decode cX11_digest 210 = .ok (.iinc 3 1, 3) := by decide +kernel
theorem dX11_digest_213 : decode cX11_digest 213 = .ok (.goto (-41), 3) := by decide +kernel
theorem dX11_digest_216 : decode cX11_digest 216 = .ok (.iconst 0, 1) := by decide +kernel
theorem dX11_digest_217 : decode cX11_digest 217 = .ok (.istore_n 3, 1) := by decide +kernel
theorem dX11_digest_218 : decode cX11_digest 218 = .ok (.iload_n 3, 1) := by decide +kernel
theorem dX11_digest_219 : decode cX11_digest 219 = .ok (.aload_n 0, 1) := by decide +kernel
theorem dX11_digest_220 : decode cX11_digest 220 = .ok (.getfield 320, 3) := by decide +kernel
theorem dX11_digest_223 : decode cX11_digest 223 = .ok (.if_icmp .ge 42, 3) := by decide +kernel
theorem dX11_digest_226 : decode cX11_digest 226 = .ok (.iconst 0, 1) := by decide +kernel
theorem dX11_digest_227 : decode cX11_digest 227 = .ok (.istore 4, 2) := by decide +kernel
theorem dX11_digest_229 : decode cX11_digest 229 = .ok (.iload 4, 2) := by decide +kernel
theorem dX11_digest_231 : decode cX11_digest 231 = .ok (.aload_n 0, 1) := by decide +kernel
theorem dX11_digest_232 : decode cX11_digest 232 = .ok (.getfield 289, 3) := by decide +kernel
theorem dX11_digest_235 : decode cX11_digest 235 = .ok (.if_icmp .ge 24, 3) := by decide +kernel
theorem dX11_digest_238 : decode cX11_digest 238 = .ok (.lload_n 1, 1) := by decide +kernel
theorem dX11_digest_239 : decode cX11_digest 239 = .ok (.ldc2_w 396, 3) := by decide +kernel
theorem dX11_digest_242 : decode cX11_digest 242 = .ok (.lmul, 1) := by decide +kernel
theorem dX11_digest_243 : decode cX11_digest 243 = .ok (.aload_n 0, 1) := by decide +kernel
theorem dX11_digest_244 : decode cX11_digest 244 = .ok (.iload_n 3, 1) := by decide +kernel
theorem dX11_digest_245 : decode cX11_digest 245 = .ok (.iload 4, 2) := by decide +kernel
theorem dX11_digest_247 : decode cX11_digest 247 = .ok (.invokevirtual 362, 3) := by decide +kernel
theorem dX11_digest_250 : decode cX11_digest 250 = .ok (.i2l, 1) := by decide +kernel
theorem dX11_digest_251 : decode cX11_digest 251 = .ok (.ladd, 1) := by decide +kernel
theorem dX11_digest_252 : decode cX11_digest 252 = .ok (.lstore_n 1, 1) := by decide +kernel
theorem dX11_digest_253 : decode cX11_digest 253 = .ok (.iinc 4 1, 3) := by decide +kernel
theorem dX11_digest_256 : decode cX11_digest 256 = .ok (.goto (-27), 3) := by decide +kernel
theorem dX11_digest_259 : decode cX11_digest 259 = .ok (.iinc 3 1, 3) := by decide +kernel
theorem dX11_digest_262 : decode cX11_digest 262 = .ok (.goto (-44), 3) := by decide +kernel
theorem dX11_digest_265 : decode cX11_digest 265 = .ok (.lload_n 1, 1) := by decide +kernel
theorem dX11_digest_266 : decode cX11_digest 266 = .ok (.ldc2_w 396, 3) := by decide +kernel
theorem dX11_digest_269 : decode cX11_digest 269 = .ok (.lmul, 1) := by decide +kernel
theorem dX11_digest_270 : decode cX11_digest 270 = .ok (.aload_n 0, 1) := by decide +kernel
theorem dX11_digest_271 : decode cX11_digest 271 = .ok (.invokevirtual 388, 3) := by decide +kernel
theorem dX11_digest_274 : decode cX11_digest 274 = .ok (.i2l, 1) := by decide +kernel
theorem dX11_digest_275 : decode cX11_digest 275 = .ok (.ladd, 1) := by decide +kernel
theorem dX11_digest_276 : decode cX11_digest 276 = .ok (.lreturn, 1) := by decide +kernel
