set_option maxRecDepth 100000 in
theorem xa_23 : xall 23 = true := by decide +kernel
set_option maxRecDepth 100000 in
theorem xa_24 : xall 24 = true := by decide +kernel
set_option maxRecDepth 100000 in
theorem xa_25 : xall 25 = true := by decide +kernel
set_option maxRecDepth 100000 in
theorem xa_26 : xall 26 = true := by decide +kernel
set_option maxRecDepth 100000 in
theorem xa_27 : xall 27 = true := by decide +kernel
set_option maxRecDepth 100000 in
theorem xa_28 : xall 28 = true := by decide +kernel
set_option maxRecDepth 100000 in
theorem xa_29 : xall 29 = true := by decide +kernel
set_option maxRecDepth 100000 in
theorem xa_30 : xall 30 = true := by decide +kernel
set_option maxRecDepth 100000 in
theorem xa_31 : xall 31 = true := by decide +kernel
set_option maxRecDepth 100000 in
theorem xa_32 : xall 32 = true := by decide +kernel
set_option maxRecDepth 100000 in
theorem xa_33 : xall 33 = true := by decide +kernel
set_option maxRecDepth 100000 in
theorem xa_34 : xall 34 = true := by decide +kernel
set_option maxRecDepth 100000 in
theorem xa_35 : xall 35 = true := by decide +kernel
set_option maxRecDepth 100000 in
theorem xa_36 : xall 36 = true := by decide +kernel
set_option maxRecDepth 100000 in
theorem xa_37 : xall 37 = true := by decide +kernel
set_option maxRecDepth 100000 in
theorem xa_38 : xall 38 = true := by decide +kernel
set_option maxRecDepth 100000 in
theorem xa_39 : xall 39 = true := by decide +kernel
set_option maxRecDepth 100000 in
theorem xa_40 : xall 40 = true := by decide +kernel
set_option maxRecDepth 100000 in
theorem xa_41 : xall 41 = true := by decide +kernel
set_option maxRecDepth 100000 in
theorem xa_42 : xall 42 = true := by decide +kernel
set_option maxRecDepth 100000 in
theorem xa_43 : xall 43 = true := by decide +kernel
set_option maxRecDepth 100000 in
theorem xa_44 : xall 44 = true := by decide +kernel
set_option maxRecDepth 100000 in
theorem xa_45 : xall 45 = true := by decide +kernel
set_option maxRecDepth 100000 in
theorem xa_46 : xall 46 = true := by decide +kernel
set_option maxRecDepth 100000 in
theorem xa_47 : xall 47 = true := by decide +kernel
set_option maxRecDepth 100000 in
theorem xa_48 : xall 48 = true := by decide +kernel
set_option maxRecDepth 100000 in
theorem xa_49 : xall 49 = true := by decide +kernel
