/-! links -/
theorem kc_X9_87 : Cond.constantLong RX9 87 (I64 (27)) ∈ lw_all := in_all (i := 160) (by decide +kernel) rfl
theorem kc_X9_83 : Cond.constantLong RX9 83 (I64 (10)) ∈ lw_all := in_all (i := 954) (by decide +kernel) rfl
theorem kc_X9_85 : Cond.constantLong RX9 85 (I64 (48)) ∈ lw_all := in_all (i := 955) (by decide +kernel) rfl
theorem kc_J2_227 : Cond.constant RJ2 227 (I32 (65536)) ∈ lw_all := in_all (i := 983) (by decide +kernel) rfl
theorem kc_J11_110 : Cond.constant RJ11 110 (I32 (55232)) ∈ lw_all := in_all (i := 1003) (by decide +kernel) rfl
theorem kc_J11_76 : Cond.constant RJ11 76 (I32 (56320)) ∈ lw_all := in_all (i := 1007) (by decide +kernel) rfl
theorem kc_X2_178 : Cond.constantLong RX2 178 (I64 (100000)) ∈ lw_all := in_all (i := 1146) (by decide +kernel) rfl
theorem kc_X2_180 : Cond.constantLong RX2 180 (I64 (1000000)) ∈ lw_all := in_all (i := 1147) (by decide +kernel) rfl
theorem kc_X10_279 : Cond.constantLong RX10 279 (I64 (359)) ∈ lw_all := in_all (i := 744) (by decide +kernel) rfl
theorem kc_X10_281 : Cond.constantLong RX10 281 (I64 (31)) ∈ lw_all := in_all (i := 745) (by decide +kernel) rfl
theorem kc_X6_91 : Cond.constantLong RX6 91 (I64 (31)) ∈ lw_all := in_all (i := 750) (by decide +kernel) rfl
theorem kc_X3_95 : Cond.constantLong RX3 95 (I64 (31)) ∈ lw_all := in_all (i := 768) (by decide +kernel) rfl