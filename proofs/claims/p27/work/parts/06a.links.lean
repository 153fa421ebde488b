/-! links -/
theorem fl_X8_11 : FL RX8 11 8 0 (.array .byte) true := ⟨RX8, TX8, 2, tyX8, rfl, cw_X8, by decide, in_all (i := 92) (by decide +kernel) rfl, tyX8_ok, nmX8, (tyX8_ok 0 (by decide)).trans rfl, rfl⟩
theorem fl_X10_82 : FL RX10 82 8 1 .int false := ⟨RX8, TX8, 2, tyX8, rfl, cw_X8, by decide, in_all (i := 93) (by decide +kernel) rfl, tyX8_ok, nmX8, (tyX8_ok 1 (by decide)).trans rfl, rfl⟩
theorem fl_X8_15 : FL RX8 15 8 1 .int false := ⟨RX8, TX8, 2, tyX8, rfl, cw_X8, by decide, in_all (i := 94) (by decide +kernel) rfl, tyX8_ok, nmX8, (tyX8_ok 1 (by decide)).trans rfl, rfl⟩
theorem fl_X9_47 : FL RX9 47 8 1 .int false := ⟨RX8, TX8, 2, tyX8, rfl, cw_X8, by decide, in_all (i := 95) (by decide +kernel) rfl, tyX8_ok, nmX8, (tyX8_ok 1 (by decide)).trans rfl, rfl⟩
theorem fl_X9_13 : FL RX9 13 9 0 (.array .long) true := ⟨RX9, TX9, 5, tyX9, rfl, cw_X9, by decide, in_all (i := 161) (by decide +kernel) rfl, tyX9_ok, nmX9, (tyX9_ok 0 (by decide)).trans rfl, rfl⟩
theorem fl_X9_17 : FL RX9 17 9 1 (.array .int) true := ⟨RX9, TX9, 5, tyX9, rfl, cw_X9, by decide, in_all (i := 162) (by decide +kernel) rfl, tyX9_ok, nmX9, (tyX9_ok 1 (by decide)).trans rfl, rfl⟩
theorem fl_X9_21 : FL RX9 21 9 2 (.array .int) true := ⟨RX9, TX9, 5, tyX9, rfl, cw_X9, by decide, in_all (i := 163) (by decide +kernel) rfl, tyX9_ok, nmX9, (tyX9_ok 2 (by decide)).trans rfl, rfl⟩
theorem fl_X9_24 : FL RX9 24 9 3 (.array .long) true := ⟨RX9, TX9, 5, tyX9, rfl, cw_X9, by decide, in_all (i := 164) (by decide +kernel) rfl, tyX9_ok, nmX9, (tyX9_ok 3 (by decide)).trans rfl, rfl⟩
theorem fl_X9_43 : FL RX9 43 9 4 .int false := ⟨RX9, TX9, 5, tyX9, rfl, cw_X9, by decide, in_all (i := 165) (by decide +kernel) rfl, tyX9_ok, nmX9, (tyX9_ok 4 (by decide)).trans rfl, rfl⟩
theorem fl_X1_9 : FL RX1 9 1 0 (.object "MenuScript$Tokens") true := ⟨RX1, TX1, 3, tyX1, rfl, cw_X1, by decide, in_all (i := 185) (by decide +kernel) rfl, tyX1_ok, nmX1, (tyX1_ok 0 (by decide)).trans rfl, rfl⟩
theorem fl_X1_15 : FL RX1 15 1 1 .int false := ⟨RX1, TX1, 3, tyX1, rfl, cw_X1, by decide, in_all (i := 186) (by decide +kernel) rfl, tyX1_ok, nmX1, (tyX1_ok 1 (by decide)).trans rfl, rfl⟩
theorem fl_X1_62 : FL RX1 62 1 2 .int false := ⟨RX1, TX1, 3, tyX1, rfl, cw_X1, by decide, in_all (i := 187) (by decide +kernel) rfl, tyX1_ok, nmX1, (tyX1_ok 2 (by decide)).trans rfl, rfl⟩
theorem fl_X4_9 : FL RX4 9 4 0 (.array .long) true := ⟨RX4, TX4, 3, tyX4, rfl, cw_X4, by decide, in_all (i := 207) (by decide +kernel) rfl, tyX4_ok, nmX4, (tyX4_ok 0 (by decide)).trans rfl, rfl⟩
theorem fl_X4_15 : FL RX4 15 4 1 .int true := ⟨RX4, TX4, 3, tyX4, rfl, cw_X4, by decide, in_all (i := 208) (by decide +kernel) rfl, tyX4_ok, nmX4, (tyX4_ok 1 (by decide)).trans rfl, rfl⟩
theorem fl_X6_72 : FL RX6 72 4 2 .int false := ⟨RX4, TX4, 3, tyX4, rfl, cw_X4, by decide, in_all (i := 209) (by decide +kernel) rfl, tyX4_ok, nmX4, (tyX4_ok 2 (by decide)).trans rfl, rfl⟩
theorem fl_X4_19 : FL RX4 19 4 2 .int false := ⟨RX4, TX4, 3, tyX4, rfl, cw_X4, by decide, in_all (i := 210) (by decide +kernel) rfl, tyX4_ok, nmX4, (tyX4_ok 2 (by decide)).trans rfl, rfl⟩
theorem fl_X2_74 : FL RX2 74 4 2 .int false := ⟨RX4, TX4, 3, tyX4, rfl, cw_X4, by decide, in_all (i := 211) (by decide +kernel) rfl, tyX4_ok, nmX4, (tyX4_ok 2 (by decide)).trans rfl, rfl⟩
theorem fl_X5_50 : FL RX5 50 4 2 .int false := ⟨RX4, TX4, 3, tyX4, rfl, cw_X4, by decide, in_all (i := 212) (by decide +kernel) rfl, tyX4_ok, nmX4, (tyX4_ok 2 (by decide)).trans rfl, rfl⟩
theorem fl_X0_68 : FL RX0 68 4 2 .int false := ⟨RX4, TX4, 3, tyX4, rfl, cw_X4, by decide, in_all (i := 213) (by decide +kernel) rfl, tyX4_ok, nmX4, (tyX4_ok 2 (by decide)).trans rfl, rfl⟩
theorem fl_X10_152 : FL RX10 152 4 2 .int false := ⟨RX4, TX4, 3, tyX4, rfl, cw_X4, by decide, in_all (i := 214) (by decide +kernel) rfl, tyX4_ok, nmX4, (tyX4_ok 2 (by decide)).trans rfl, rfl⟩
theorem fl_X7_9 : FL RX7 9 7 0 (.array .int) true := ⟨RX7, TX7, 5, tyX7, rfl, cw_X7, by decide, in_all (i := 228) (by decide +kernel) rfl, tyX7_ok, nmX7, (tyX7_ok 0 (by decide)).trans rfl, rfl⟩
theorem fl_X3_77 : FL RX3 77 7 0 (.array .int) true := ⟨RX7, TX7, 5, tyX7, rfl, cw_X7, by decide, in_all (i := 229) (by decide +kernel) rfl, tyX7_ok, nmX7, (tyX7_ok 0 (by decide)).trans rfl, rfl⟩
theorem fl_X2_222 : FL RX2 222 7 0 (.array .int) true := ⟨RX7, TX7, 5, tyX7, rfl, cw_X7, by decide, in_all (i := 230) (by decide +kernel) rfl, tyX7_ok, nmX7, (tyX7_ok 0 (by decide)).trans rfl, rfl⟩
theorem fl_X7_15 : FL RX7 15 7 1 (.array .int) true := ⟨RX7, TX7, 5, tyX7, rfl, cw_X7, by decide, in_all (i := 231) (by decide +kernel) rfl, tyX7_ok, nmX7, (tyX7_ok 1 (by decide)).trans rfl, rfl⟩
theorem fl_X3_108 : FL RX3 108 7 1 (.array .int) true := ⟨RX7, TX7, 5, tyX7, rfl, cw_X7, by decide, in_all (i := 232) (by decide +kernel) rfl, tyX7_ok, nmX7, (tyX7_ok 1 (by decide)).trans rfl, rfl⟩
theorem fl_X2_225 : FL RX2 225 7 1 (.array .int) true := ⟨RX7, TX7, 5, tyX7, rfl, cw_X7, by decide, in_all (i := 233) (by decide +kernel) rfl, tyX7_ok, nmX7, (tyX7_ok 1 (by decide)).trans rfl, rfl⟩
theorem fl_X7_18 : FL RX7 18 7 2 (.array .int) true := ⟨RX7, TX7, 5, tyX7, rfl, cw_X7, by decide, in_all (i := 234) (by decide +kernel) rfl, tyX7_ok, nmX7, (tyX7_ok 2 (by decide)).trans rfl, rfl⟩
theorem fl_X3_111 : FL RX3 111 7 2 (.array .int) true := ⟨RX7, TX7, 5, tyX7, rfl, cw_X7, by decide, in_all (i := 235) (by decide +kernel) rfl, tyX7_ok, nmX7, (tyX7_ok 2 (by decide)).trans rfl, rfl⟩
theorem fl_X2_206 : FL RX2 206 7 2 (.array .int) true := ⟨RX7, TX7, 5, tyX7, rfl, cw_X7, by decide, in_all (i := 236) (by decide +kernel) rfl, tyX7_ok, nmX7, (tyX7_ok 2 (by decide)).trans rfl, rfl⟩
theorem fl_X7_21 : FL RX7 21 7 3 (.array .int) true := ⟨RX7, TX7, 5, tyX7, rfl, cw_X7, by decide, in_all (i := 237) (by decide +kernel) rfl, tyX7_ok, nmX7, (tyX7_ok 3 (by decide)).trans rfl, rfl⟩
theorem fl_X3_104 : FL RX3 104 7 3 (.array .int) true := ⟨RX7, TX7, 5, tyX7, rfl, cw_X7, by decide, in_all (i := 238) (by decide +kernel) rfl, tyX7_ok, nmX7, (tyX7_ok 3 (by decide)).trans rfl, rfl⟩
theorem fl_X2_209 : FL RX2 209 7 3 (.array .int) true := ⟨RX7, TX7, 5, tyX7, rfl, cw_X7, by decide, in_all (i := 239) (by decide +kernel) rfl, tyX7_ok, nmX7, (tyX7_ok 3 (by decide)).trans rfl, rfl⟩
theorem fl_X7_24 : FL RX7 24 7 4 .int false := ⟨RX7, TX7, 5, tyX7, rfl, cw_X7, by decide, in_all (i := 240) (by decide +kernel) rfl, tyX7_ok, nmX7, (tyX7_ok 4 (by decide)).trans rfl, rfl⟩
theorem fl_X6_76 : FL RX6 76 7 4 .int false := ⟨RX7, TX7, 5, tyX7, rfl, cw_X7, by decide, in_all (i := 241) (by decide +kernel) rfl, tyX7_ok, nmX7, (tyX7_ok 4 (by decide)).trans rfl, rfl⟩
theorem fl_X3_68 : FL RX3 68 7 4 .int false := ⟨RX7, TX7, 5, tyX7, rfl, cw_X7, by decide, in_all (i := 242) (by decide +kernel) rfl, tyX7_ok, nmX7, (tyX7_ok 4 (by decide)).trans rfl, rfl⟩
theorem fl_X2_203 : FL RX2 203 7 4 .int false := ⟨RX7, TX7, 5, tyX7, rfl, cw_X7, by decide, in_all (i := 243) (by decide +kernel) rfl, tyX7_ok, nmX7, (tyX7_ok 4 (by decide)).trans rfl, rfl⟩
theorem fl_X10_291 : FL RX10 291 7 4 .int false := ⟨RX7, TX7, 5, tyX7, rfl, cw_X7, by decide, in_all (i := 244) (by decide +kernel) rfl, tyX7_ok, nmX7, (tyX7_ok 4 (by decide)).trans rfl, rfl⟩
theorem fl_X6_14 : FL RX6 14 6 0 (.object "MenuScript$NameRow") true := ⟨RX6, TX6, 17, tyX6, rfl, cw_X6, by decide, in_all (i := 258) (by decide +kernel) rfl, tyX6_ok, nmX6, (tyX6_ok 0 (by decide)).trans rfl, rfl⟩
theorem fl_X2_86 : FL RX2 86 6 0 (.object "MenuScript$NameRow") true := ⟨RX6, TX6, 17, tyX6, rfl, cw_X6, by decide, in_all (i := 259) (by decide +kernel) rfl, tyX6_ok, nmX6, (tyX6_ok 0 (by decide)).trans rfl, rfl⟩
theorem fl_X10_161 : FL RX10 161 6 0 (.object "MenuScript$NameRow") true := ⟨RX6, TX6, 17, tyX6, rfl, cw_X6, by decide, in_all (i := 260) (by decide +kernel) rfl, tyX6_ok, nmX6, (tyX6_ok 0 (by decide)).trans rfl, rfl⟩
theorem fl_X6_20 : FL RX6 20 6 1 (.object "MenuScript$NameRow") true := ⟨RX6, TX6, 17, tyX6, rfl, cw_X6, by decide, in_all (i := 261) (by decide +kernel) rfl, tyX6_ok, nmX6, (tyX6_ok 1 (by decide)).trans rfl, rfl⟩
theorem fl_X2_68 : FL RX2 68 6 1 (.object "MenuScript$NameRow") true := ⟨RX6, TX6, 17, tyX6, rfl, cw_X6, by decide, in_all (i := 262) (by decide +kernel) rfl, tyX6_ok, nmX6, (tyX6_ok 1 (by decide)).trans rfl, rfl⟩
theorem fl_X5_46 : FL RX5 46 6 1 (.object "MenuScript$NameRow") true := ⟨RX6, TX6, 17, tyX6, rfl, cw_X6, by decide, in_all (i := 263) (by decide +kernel) rfl, tyX6_ok, nmX6, (tyX6_ok 1 (by decide)).trans rfl, rfl⟩
theorem fl_X0_43 : FL RX0 43 6 1 (.object "MenuScript$NameRow") true := ⟨RX6, TX6, 17, tyX6, rfl, cw_X6, by decide, in_all (i := 264) (by decide +kernel) rfl, tyX6_ok, nmX6, (tyX6_ok 1 (by decide)).trans rfl, rfl⟩
theorem fl_X10_148 : FL RX10 148 6 1 (.object "MenuScript$NameRow") true := ⟨RX6, TX6, 17, tyX6, rfl, cw_X6, by decide, in_all (i := 266) (by decide +kernel) rfl, tyX6_ok, nmX6, (tyX6_ok 1 (by decide)).trans rfl, rfl⟩
theorem fl_X3_83 : FL RX3 83 6 1 (.object "MenuScript$NameRow") true := ⟨RX6, TX6, 17, tyX6, rfl, cw_X6, by decide, in_all (i := 265) (by decide +kernel) rfl, tyX6_ok, nmX6, (tyX6_ok 1 (by decide)).trans rfl, rfl⟩
theorem fl_X6_23 : FL RX6 23 6 2 (.object "MenuScript$NameRow") true := ⟨RX6, TX6, 17, tyX6, rfl, cw_X6, by decide, in_all (i := 267) (by decide +kernel) rfl, tyX6_ok, nmX6, (tyX6_ok 2 (by decide)).trans rfl, rfl⟩
theorem fl_X2_79 : FL RX2 79 6 2 (.object "MenuScript$NameRow") true := ⟨RX6, TX6, 17, tyX6, rfl, cw_X6, by decide, in_all (i := 268) (by decide +kernel) rfl, tyX6_ok, nmX6, (tyX6_ok 2 (by decide)).trans rfl, rfl⟩
theorem fl_X10_288 : FL RX10 288 6 2 (.object "MenuScript$NameRow") true := ⟨RX6, TX6, 17, tyX6, rfl, cw_X6, by decide, in_all (i := 269) (by decide +kernel) rfl, tyX6_ok, nmX6, (tyX6_ok 2 (by decide)).trans rfl, rfl⟩
theorem fl_X6_26 : FL RX6 26 6 3 (.object "MenuScript$NameRow") true := ⟨RX6, TX6, 17, tyX6, rfl, cw_X6, by decide, in_all (i := 270) (by decide +kernel) rfl, tyX6_ok, nmX6, (tyX6_ok 3 (by decide)).trans rfl, rfl⟩
theorem fl_X0_55 : FL RX0 55 6 3 (.object "MenuScript$NameRow") true := ⟨RX6, TX6, 17, tyX6, rfl, cw_X6, by decide, in_all (i := 271) (by decide +kernel) rfl, tyX6_ok, nmX6, (tyX6_ok 3 (by decide)).trans rfl, rfl⟩
theorem fl_X2_182 : FL RX2 182 6 3 (.object "MenuScript$NameRow") true := ⟨RX6, TX6, 17, tyX6, rfl, cw_X6, by decide, in_all (i := 272) (by decide +kernel) rfl, tyX6_ok, nmX6, (tyX6_ok 3 (by decide)).trans rfl, rfl⟩
theorem fl_X10_292 : FL RX10 292 6 3 (.object "MenuScript$NameRow") true := ⟨RX6, TX6, 17, tyX6, rfl, cw_X6, by decide, in_all (i := 273) (by decide +kernel) rfl, tyX6_ok, nmX6, (tyX6_ok 3 (by decide)).trans rfl, rfl⟩
theorem fl_X6_32 : FL RX6 32 6 4 (.object "MenuScript$RuleRow") true := ⟨RX6, TX6, 17, tyX6, rfl, cw_X6, by decide, in_all (i := 274) (by decide +kernel) rfl, tyX6_ok, nmX6, (tyX6_ok 4 (by decide)).trans rfl, rfl⟩
theorem fl_X3_64 : FL RX3 64 6 4 (.object "MenuScript$RuleRow") true := ⟨RX6, TX6, 17, tyX6, rfl, cw_X6, by decide, in_all (i := 275) (by decide +kernel) rfl, tyX6_ok, nmX6, (tyX6_ok 4 (by decide)).trans rfl, rfl⟩
theorem fl_X10_194 : FL RX10 194 6 4 (.object "MenuScript$RuleRow") true := ⟨RX6, TX6, 17, tyX6, rfl, cw_X6, by decide, in_all (i := 277) (by decide +kernel) rfl, tyX6_ok, nmX6, (tyX6_ok 4 (by decide)).trans rfl, rfl⟩
theorem fl_X2_199 : FL RX2 199 6 4 (.object "MenuScript$RuleRow") true := ⟨RX6, TX6, 17, tyX6, rfl, cw_X6, by decide, in_all (i := 276) (by decide +kernel) rfl, tyX6_ok, nmX6, (tyX6_ok 4 (by decide)).trans rfl, rfl⟩
theorem fl_X6_36 : FL RX6 36 6 5 (.array .int) true := ⟨RX6, TX6, 17, tyX6, rfl, cw_X6, by decide, in_all (i := 278) (by decide +kernel) rfl, tyX6_ok, nmX6, (tyX6_ok 5 (by decide)).trans rfl, rfl⟩
theorem fl_X2_102 : FL RX2 102 6 5 (.array .int) true := ⟨RX6, TX6, 17, tyX6, rfl, cw_X6, by decide, in_all (i := 279) (by decide +kernel) rfl, tyX6_ok, nmX6, (tyX6_ok 5 (by decide)).trans rfl, rfl⟩
theorem fl_X6_40 : FL RX6 40 6 6 (.array .int) true := ⟨RX6, TX6, 17, tyX6, rfl, cw_X6, by decide, in_all (i := 280) (by decide +kernel) rfl, tyX6_ok, nmX6, (tyX6_ok 6 (by decide)).trans rfl, rfl⟩
theorem fl_X2_108 : FL RX2 108 6 6 (.array .int) true := ⟨RX6, TX6, 17, tyX6, rfl, cw_X6, by decide, in_all (i := 281) (by decide +kernel) rfl, tyX6_ok, nmX6, (tyX6_ok 6 (by decide)).trans rfl, rfl⟩
theorem fl_X6_43 : FL RX6 43 6 7 (.array .int) true := ⟨RX6, TX6, 17, tyX6, rfl, cw_X6, by decide, in_all (i := 282) (by decide +kernel) rfl, tyX6_ok, nmX6, (tyX6_ok 7 (by decide)).trans rfl, rfl⟩
theorem fl_X2_117 : FL RX2 117 6 7 (.array .int) true := ⟨RX6, TX6, 17, tyX6, rfl, cw_X6, by decide, in_all (i := 283) (by decide +kernel) rfl, tyX6_ok, nmX6, (tyX6_ok 7 (by decide)).trans rfl, rfl⟩
theorem fl_X6_46 : FL RX6 46 6 8 (.array .int) true := ⟨RX6, TX6, 17, tyX6, rfl, cw_X6, by decide, in_all (i := 284) (by decide +kernel) rfl, tyX6_ok, nmX6, (tyX6_ok 8 (by decide)).trans rfl, rfl⟩
theorem fl_X2_124 : FL RX2 124 6 8 (.array .int) true := ⟨RX6, TX6, 17, tyX6, rfl, cw_X6, by decide, in_all (i := 285) (by decide +kernel) rfl, tyX6_ok, nmX6, (tyX6_ok 8 (by decide)).trans rfl, rfl⟩
theorem fl_X6_49 : FL RX6 49 6 9 (.array .int) true := ⟨RX6, TX6, 17, tyX6, rfl, cw_X6, by decide, in_all (i := 286) (by decide +kernel) rfl, tyX6_ok, nmX6, (tyX6_ok 9 (by decide)).trans rfl, rfl⟩
theorem fl_X2_169 : FL RX2 169 6 9 (.array .int) true := ⟨RX6, TX6, 17, tyX6, rfl, cw_X6, by decide, in_all (i := 287) (by decide +kernel) rfl, tyX6_ok, nmX6, (tyX6_ok 9 (by decide)).trans rfl, rfl⟩
theorem fl_X3_101 : FL RX3 101 6 9 (.array .int) true := ⟨RX6, TX6, 17, tyX6, rfl, cw_X6, by decide, in_all (i := 288) (by decide +kernel) rfl, tyX6_ok, nmX6, (tyX6_ok 9 (by decide)).trans rfl, rfl⟩
theorem fl_X6_52 : FL RX6 52 6 10 (.array .int) true := ⟨RX6, TX6, 17, tyX6, rfl, cw_X6, by decide, in_all (i := 289) (by decide +kernel) rfl, tyX6_ok, nmX6, (tyX6_ok 10 (by decide)).trans rfl, rfl⟩
theorem fl_X2_172 : FL RX2 172 6 10 (.array .int) true := ⟨RX6, TX6, 17, tyX6, rfl, cw_X6, by decide, in_all (i := 290) (by decide +kernel) rfl, tyX6_ok, nmX6, (tyX6_ok 10 (by decide)).trans rfl, rfl⟩
theorem fl_X6_55 : FL RX6 55 6 11 (.array .int) true := ⟨RX6, TX6, 17, tyX6, rfl, cw_X6, by decide, in_all (i := 291) (by decide +kernel) rfl, tyX6_ok, nmX6, (tyX6_ok 11 (by decide)).trans rfl, rfl⟩
theorem fl_X2_175 : FL RX2 175 6 11 (.array .int) true := ⟨RX6, TX6, 17, tyX6, rfl, cw_X6, by decide, in_all (i := 292) (by decide +kernel) rfl, tyX6_ok, nmX6, (tyX6_ok 11 (by decide)).trans rfl, rfl⟩
theorem fl_X6_58 : FL RX6 58 6 12 (.array .int) true := ⟨RX6, TX6, 17, tyX6, rfl, cw_X6, by decide, in_all (i := 293) (by decide +kernel) rfl, tyX6_ok, nmX6, (tyX6_ok 12 (by decide)).trans rfl, rfl⟩
theorem fl_X2_151 : FL RX2 151 6 12 (.array .int) true := ⟨RX6, TX6, 17, tyX6, rfl, cw_X6, by decide, in_all (i := 294) (by decide +kernel) rfl, tyX6_ok, nmX6, (tyX6_ok 12 (by decide)).trans rfl, rfl⟩
theorem fl_X6_63 : FL RX6 63 6 13 (.array (.array .int)) true := ⟨RX6, TX6, 17, tyX6, rfl, cw_X6, by decide, in_all (i := 295) (by decide +kernel) rfl, tyX6_ok, nmX6, (tyX6_ok 13 (by decide)).trans rfl, rfl⟩
theorem fl_X2_144 : FL RX2 144 6 13 (.array (.array .int)) true := ⟨RX6, TX6, 17, tyX6, rfl, cw_X6, by decide, in_all (i := 296) (by decide +kernel) rfl, tyX6_ok, nmX6, (tyX6_ok 13 (by decide)).trans rfl, rfl⟩
theorem fl_X6_66 : FL RX6 66 6 14 (.array .int) true := ⟨RX6, TX6, 17, tyX6, rfl, cw_X6, by decide, in_all (i := 297) (by decide +kernel) rfl, tyX6_ok, nmX6, (tyX6_ok 14 (by decide)).trans rfl, rfl⟩
theorem fl_X10_188 : FL RX10 188 6 14 (.array .int) true := ⟨RX6, TX6, 17, tyX6, rfl, cw_X6, by decide, in_all (i := 298) (by decide +kernel) rfl, tyX6_ok, nmX6, (tyX6_ok 14 (by decide)).trans rfl, rfl⟩
theorem fl_X2_191 : FL RX2 191 6 14 (.array .int) true := ⟨RX6, TX6, 17, tyX6, rfl, cw_X6, by decide, in_all (i := 299) (by decide +kernel) rfl, tyX6_ok, nmX6, (tyX6_ok 14 (by decide)).trans rfl, rfl⟩
theorem fl_X6_69 : FL RX6 69 6 15 (.array .int) true := ⟨RX6, TX6, 17, tyX6, rfl, cw_X6, by decide, in_all (i := 300) (by decide +kernel) rfl, tyX6_ok, nmX6, (tyX6_ok 15 (by decide)).trans rfl, rfl⟩
theorem fl_X10_192 : FL RX10 192 6 15 (.array .int) true := ⟨RX6, TX6, 17, tyX6, rfl, cw_X6, by decide, in_all (i := 301) (by decide +kernel) rfl, tyX6_ok, nmX6, (tyX6_ok 15 (by decide)).trans rfl, rfl⟩
theorem fl_X2_231 : FL RX2 231 6 15 (.array .int) true := ⟨RX6, TX6, 17, tyX6, rfl, cw_X6, by decide, in_all (i := 302) (by decide +kernel) rfl, tyX6_ok, nmX6, (tyX6_ok 15 (by decide)).trans rfl, rfl⟩
theorem fl_X3_37 : FL RX3 37 6 16 .int false := ⟨RX6, TX6, 17, tyX6, rfl, cw_X6, by decide, in_all (i := 303) (by decide +kernel) rfl, tyX6_ok, nmX6, (tyX6_ok 16 (by decide)).trans rfl, rfl⟩
theorem fl_X5_29 : FL RX5 29 6 16 .int false := ⟨RX6, TX6, 17, tyX6, rfl, cw_X6, by decide, in_all (i := 304) (by decide +kernel) rfl, tyX6_ok, nmX6, (tyX6_ok 16 (by decide)).trans rfl, rfl⟩
theorem fl_X6_77 : FL RX6 77 6 16 .int false := ⟨RX6, TX6, 17, tyX6, rfl, cw_X6, by decide, in_all (i := 305) (by decide +kernel) rfl, tyX6_ok, nmX6, (tyX6_ok 16 (by decide)).trans rfl, rfl⟩
theorem fl_X2_188 : FL RX2 188 6 16 .int false := ⟨RX6, TX6, 17, tyX6, rfl, cw_X6, by decide, in_all (i := 306) (by decide +kernel) rfl, tyX6_ok, nmX6, (tyX6_ok 16 (by decide)).trans rfl, rfl⟩
theorem fl_X10_251 : FL RX10 251 6 16 .int false := ⟨RX6, TX6, 17, tyX6, rfl, cw_X6, by decide, in_all (i := 307) (by decide +kernel) rfl, tyX6_ok, nmX6, (tyX6_ok 16 (by decide)).trans rfl, rfl⟩
theorem fl_X0_9 : FL RX0 9 0 0 (.object "MenuScript$Tokens") true := ⟨RX0, TX0, 4, tyX0, rfl, cw_X0, by decide, in_all (i := 349) (by decide +kernel) rfl, tyX0_ok, nmX0, (tyX0_ok 0 (by decide)).trans rfl, rfl⟩
