set_option maxRecDepth 100000 in
theorem xa_0 : xall 0 = true := by decide +kernel
set_option maxRecDepth 100000 in
theorem xa_1 : xall 1 = true := by decide +kernel
set_option maxRecDepth 100000 in
theorem xa_2 : xall 2 = true := by decide +kernel
set_option maxRecDepth 100000 in
theorem xa_3 : xall 3 = true := by decide +kernel
set_option maxRecDepth 100000 in
theorem xa_4 : xall 4 = true := by decide +kernel
set_option maxRecDepth 100000 in
theorem xa_5 : xall 5 = true := by decide +kernel
set_option maxRecDepth 100000 in
theorem xa_6 : xall 6 = true := by decide +kernel
set_option maxRecDepth 100000 in
theorem xa_7 : xall 7 = true := by decide +kernel
set_option maxRecDepth 100000 in
theorem xa_8 : xall 8 = true := by decide +kernel
set_option maxRecDepth 100000 in
theorem xa_9 : xall 9 = true := by decide +kernel
set_option maxRecDepth 100000 in
theorem xa_10 : xall 10 = true := by decide +kernel
set_option maxRecDepth 100000 in
theorem xa_11 : xall 11 = true := by decide +kernel
set_option maxRecDepth 100000 in
theorem xa_12 : xall 12 = true := by decide +kernel
set_option maxRecDepth 100000 in
theorem xa_13 : xall 13 = true := by decide +kernel
set_option maxRecDepth 100000 in
theorem xa_14 : xall 14 = true := by decide +kernel
set_option maxRecDepth 100000 in
theorem xa_15 : xall 15 = true := by decide +kernel
set_option maxRecDepth 100000 in
theorem xa_16 : xall 16 = true := by decide +kernel
set_option maxRecDepth 100000 in
theorem xa_17 : xall 17 = true := by decide +kernel
set_option maxRecDepth 100000 in
theorem xa_18 : xall 18 = true := by decide +kernel
set_option maxRecDepth 100000 in
theorem xa_19 : xall 19 = true := by decide +kernel
set_option maxRecDepth 100000 in
theorem xa_20 : xall 20 = true := by decide +kernel
set_option maxRecDepth 100000 in
theorem xa_21 : xall 21 = true := by decide +kernel
set_option maxRecDepth 100000 in
theorem xa_22 : xall 22 = true := by decide +kernel
