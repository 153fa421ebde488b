/-! words of the throws -/
theorem xk_131_135 : exOk RX10 131 135 "java/lang/IndexOutOfBoundsException" = true := by decide +kernel
theorem xk_96_100 : exOk RX10 96 100 "java/lang/IllegalArgumentException" = true := by decide +kernel
theorem xk_85_89 : exOk RX10 85 89 "java/lang/IllegalStateException" = true := by decide +kernel
