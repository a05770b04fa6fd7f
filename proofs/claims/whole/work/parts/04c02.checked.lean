set_option maxRecDepth 100000 in
theorem xa_50 : xall 50 = true := by decide +kernel
set_option maxRecDepth 100000 in
theorem xa_51 : xall 51 = true := by decide +kernel
set_option maxRecDepth 100000 in
theorem xa_52 : xall 52 = true := by decide +kernel
set_option maxRecDepth 100000 in
theorem xa_53 : xall 53 = true := by decide +kernel
set_option maxRecDepth 100000 in
theorem xa_54 : xall 54 = true := by decide +kernel
set_option maxRecDepth 100000 in
theorem xa_55 : xall 55 = true := by decide +kernel
set_option maxRecDepth 100000 in
theorem xa_56 : xall 56 = true := by decide +kernel
set_option maxRecDepth 100000 in
theorem xa_57 : xall 57 = true := by decide +kernel
set_option maxRecDepth 100000 in
theorem xa_58 : xall 58 = true := by decide +kernel
set_option maxRecDepth 100000 in
theorem xa_59 : xall 59 = true := by decide +kernel
set_option maxRecDepth 100000 in
theorem xa_60 : xall 60 = true := by decide +kernel
set_option maxRecDepth 100000 in
theorem xa_61 : xall 61 = true := by decide +kernel
set_option maxRecDepth 100000 in
theorem xa_62 : xall 62 = true := by decide +kernel
set_option maxRecDepth 100000 in
theorem xa_63 : xall 63 = true := by decide +kernel
set_option maxRecDepth 100000 in
theorem xa_64 : xall 64 = true := by decide +kernel
set_option maxRecDepth 100000 in
theorem xa_65 : xall 65 = true := by decide +kernel
set_option maxRecDepth 100000 in
theorem xa_66 : xall 66 = true := by decide +kernel
set_option maxRecDepth 100000 in
theorem xa_67 : xall 67 = true := by decide +kernel
set_option maxRecDepth 100000 in
theorem xa_68 : xall 68 = true := by decide +kernel
set_option maxRecDepth 100000 in
theorem xa_69 : xall 69 = true := by decide +kernel
set_option maxRecDepth 100000 in
theorem xa_70 : xall 70 = true := by decide +kernel
set_option maxRecDepth 100000 in
theorem xa_71 : xall 71 = true := by decide +kernel
set_option maxRecDepth 100000 in
theorem xa_72 : xall 72 = true := by decide +kernel
set_option maxRecDepth 100000 in
theorem xa_73 : xall 73 = true := by decide +kernel
set_option maxRecDepth 100000 in
theorem xa_74 : xall 74 = true := by decide +kernel
set_option maxRecDepth 100000 in
theorem xa_75 : xall 75 = true := by decide +kernel
set_option maxRecDepth 100000 in
theorem xa_76 : xall 76 = true := by decide +kernel
set_option maxRecDepth 100000 in
theorem xa_77 : xall 77 = true := by decide +kernel
set_option maxRecDepth 100000 in
theorem xa_78 : xall 78 = true := by decide +kernel
set_option maxRecDepth 100000 in
theorem xa_79 : xall 79 = true := by decide +kernel
