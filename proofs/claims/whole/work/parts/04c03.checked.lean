set_option maxRecDepth 100000 in
theorem xa_80 : xall 80 = true := by decide +kernel
set_option maxRecDepth 100000 in
theorem xa_81 : xall 81 = true := by decide +kernel
set_option maxRecDepth 100000 in
theorem xa_82 : xall 82 = true := by decide +kernel
set_option maxRecDepth 100000 in
theorem xa_83 : xall 83 = true := by decide +kernel
set_option maxRecDepth 100000 in
theorem xa_84 : xall 84 = true := by decide +kernel
set_option maxRecDepth 100000 in
theorem xa_85 : xall 85 = true := by decide +kernel
set_option maxRecDepth 100000 in
theorem xa_86 : xall 86 = true := by decide +kernel
set_option maxRecDepth 100000 in
theorem xa_87 : xall 87 = true := by decide +kernel
set_option maxRecDepth 100000 in
theorem xa_88 : xall 88 = true := by decide +kernel
set_option maxRecDepth 100000 in
theorem xa_89 : xall 89 = true := by decide +kernel
set_option maxRecDepth 100000 in
theorem xa_90 : xall 90 = true := by decide +kernel
set_option maxRecDepth 100000 in
theorem xa_91 : xall 91 = true := by decide +kernel
set_option maxRecDepth 100000 in
theorem xa_92 : xall 92 = true := by decide +kernel
set_option maxRecDepth 100000 in
theorem xa_93 : xall 93 = true := by decide +kernel
set_option maxRecDepth 100000 in
theorem xa_94 : xall 94 = true := by decide +kernel
set_option maxRecDepth 100000 in
theorem xa_95 : xall 95 = true := by decide +kernel
set_option maxRecDepth 100000 in
theorem xa_96 : xall 96 = true := by decide +kernel
set_option maxRecDepth 100000 in
theorem xa_97 : xall 97 = true := by decide +kernel
set_option maxRecDepth 100000 in
theorem xa_98 : xall 98 = true := by decide +kernel
set_option maxRecDepth 100000 in
theorem xa_99 : xall 99 = true := by decide +kernel
set_option maxRecDepth 100000 in
theorem xa_100 : xall 100 = true := by decide +kernel
set_option maxRecDepth 100000 in
theorem xa_101 : xall 101 = true := by decide +kernel
