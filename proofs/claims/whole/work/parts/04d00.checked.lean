set_option maxRecDepth 100000 in
theorem xn_0 : xokM 0 = true := by decide +kernel
set_option maxRecDepth 100000 in
theorem xn_1 : xokM 1 = true := by decide +kernel
set_option maxRecDepth 100000 in
theorem xn_2 : xokM 2 = true := by decide +kernel
set_option maxRecDepth 100000 in
theorem xn_3 : xokM 3 = true := by decide +kernel
set_option maxRecDepth 100000 in
theorem xn_4 : xokM 4 = true := by decide +kernel
set_option maxRecDepth 100000 in
theorem xn_5 : xokM 5 = true := by decide +kernel
set_option maxRecDepth 100000 in
theorem xn_6 : xokM 6 = true := by decide +kernel
set_option maxRecDepth 100000 in
theorem xn_7 : xokM 7 = true := by decide +kernel
set_option maxRecDepth 100000 in
theorem xn_8 : xokM 8 = true := by decide +kernel
set_option maxRecDepth 100000 in
theorem xn_9 : xokM 9 = true := by decide +kernel
set_option maxRecDepth 100000 in
theorem xn_10 : xokM 10 = true := by decide +kernel
set_option maxRecDepth 100000 in
theorem xn_11 : xokM 11 = true := by decide +kernel
set_option maxRecDepth 100000 in
theorem xn_12 : xokM 12 = true := by decide +kernel
set_option maxRecDepth 100000 in
theorem xn_13 : xokM 13 = true := by decide +kernel
set_option maxRecDepth 100000 in
theorem xn_14 : xokM 14 = true := by decide +kernel
set_option maxRecDepth 100000 in
theorem xn_15 : xokM 15 = true := by decide +kernel
set_option maxRecDepth 100000 in
theorem xn_16 : xokM 16 = true := by decide +kernel
set_option maxRecDepth 100000 in
theorem xn_17 : xokM 17 = true := by decide +kernel
set_option maxRecDepth 100000 in
theorem xn_18 : xokM 18 = true := by decide +kernel
set_option maxRecDepth 100000 in
theorem xn_19 : xokM 19 = true := by decide +kernel
set_option maxRecDepth 100000 in
theorem xn_20 : xokM 20 = true := by decide +kernel
set_option maxRecDepth 100000 in
theorem xn_21 : xokM 21 = true := by decide +kernel
set_option maxRecDepth 100000 in
theorem xn_22 : xokM 22 = true := by decide +kernel
set_option maxRecDepth 100000 in
theorem xn_23 : xokM 23 = true := by decide +kernel
set_option maxRecDepth 100000 in
theorem xn_24 : xokM 24 = true := by decide +kernel
set_option maxRecDepth 100000 in
theorem xn_25 : xokM 25 = true := by decide +kernel
set_option maxRecDepth 100000 in
theorem xn_26 : xokM 26 = true := by decide +kernel
set_option maxRecDepth 100000 in
theorem xn_27 : xokM 27 = true := by decide +kernel
set_option maxRecDepth 100000 in
theorem xn_28 : xokM 28 = true := by decide +kernel
set_option maxRecDepth 100000 in
theorem xn_29 : xokM 29 = true := by decide +kernel
set_option maxRecDepth 100000 in
theorem xn_30 : xokM 30 = true := by decide +kernel
set_option maxRecDepth 100000 in
theorem xn_31 : xokM 31 = true := by decide +kernel
set_option maxRecDepth 100000 in
theorem xn_32 : xokM 32 = true := by decide +kernel
set_option maxRecDepth 100000 in
theorem xn_33 : xokM 33 = true := by decide +kernel
set_option maxRecDepth 100000 in
theorem xn_34 : xokM 34 = true := by decide +kernel
set_option maxRecDepth 100000 in
theorem xn_35 : xokM 35 = true := by decide +kernel
set_option maxRecDepth 100000 in
theorem xn_36 : xokM 36 = true := by decide +kernel
set_option maxRecDepth 100000 in
theorem xn_37 : xokM 37 = true := by decide +kernel
set_option maxRecDepth 100000 in
theorem xn_38 : xokM 38 = true := by decide +kernel
set_option maxRecDepth 100000 in
theorem xn_39 : xokM 39 = true := by decide +kernel
set_option maxRecDepth 100000 in
theorem xn_40 : xokM 40 = true := by decide +kernel
set_option maxRecDepth 100000 in
theorem xn_41 : xokM 41 = true := by decide +kernel
set_option maxRecDepth 100000 in
theorem xn_42 : xokM 42 = true := by decide +kernel
set_option maxRecDepth 100000 in
theorem xn_43 : xokM 43 = true := by decide +kernel
set_option maxRecDepth 100000 in
theorem xn_44 : xokM 44 = true := by decide +kernel
set_option maxRecDepth 100000 in
theorem xn_45 : xokM 45 = true := by decide +kernel
set_option maxRecDepth 100000 in
theorem xn_46 : xokM 46 = true := by decide +kernel
set_option maxRecDepth 100000 in
theorem xn_47 : xokM 47 = true := by decide +kernel
set_option maxRecDepth 100000 in
theorem xn_48 : xokM 48 = true := by decide +kernel
set_option maxRecDepth 100000 in
theorem xn_49 : xokM 49 = true := by decide +kernel
set_option maxRecDepth 100000 in
theorem xn_50 : xokM 50 = true := by decide +kernel
set_option maxRecDepth 100000 in
theorem xn_51 : xokM 51 = true := by decide +kernel
set_option maxRecDepth 100000 in
theorem xn_52 : xokM 52 = true := by decide +kernel
set_option maxRecDepth 100000 in
theorem xn_53 : xokM 53 = true := by decide +kernel
set_option maxRecDepth 100000 in
theorem xn_54 : xokM 54 = true := by decide +kernel
set_option maxRecDepth 100000 in
theorem xn_55 : xokM 55 = true := by decide +kernel
