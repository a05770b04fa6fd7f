set_option maxRecDepth 100000 in
theorem xa_102 : xall 102 = true := by decide +kernel
set_option maxRecDepth 100000 in
theorem xa_103 : xall 103 = true := by decide +kernel
set_option maxRecDepth 100000 in
theorem xa_104 : xall 104 = true := by decide +kernel
set_option maxRecDepth 100000 in
theorem xa_105 : xall 105 = true := by decide +kernel
set_option maxRecDepth 100000 in
theorem xa_106 : xall 106 = true := by decide +kernel
set_option maxRecDepth 100000 in
theorem xa_107 : xall 107 = true := by decide +kernel
set_option maxRecDepth 100000 in
theorem xa_108 : xall 108 = true := by decide +kernel
set_option maxRecDepth 100000 in
theorem xa_109 : xall 109 = true := by decide +kernel
set_option maxRecDepth 100000 in
theorem xa_110 : xall 110 = true := by decide +kernel
set_option maxRecDepth 100000 in
theorem xa_111 : xall 111 = true := by decide +kernel
set_option maxRecDepth 100000 in
theorem xa_112 : xall 112 = true := by decide +kernel
set_option maxRecDepth 100000 in
theorem xa_113 : xall 113 = true := by decide +kernel
set_option maxRecDepth 100000 in
theorem xa_114 : xall 114 = true := by decide +kernel
set_option maxRecDepth 100000 in
theorem xa_115 : xall 115 = true := by decide +kernel
set_option maxRecDepth 100000 in
theorem xa_116 : xall 116 = true := by decide +kernel
set_option maxRecDepth 100000 in
theorem xa_117 : xall 117 = true := by decide +kernel
set_option maxRecDepth 100000 in
theorem xa_118 : xall 118 = true := by decide +kernel
set_option maxRecDepth 100000 in
theorem xa_119 : xall 119 = true := by decide +kernel
