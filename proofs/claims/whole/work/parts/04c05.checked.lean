set_option maxRecDepth 100000 in
theorem xa_120 : xall 120 = true := by decide +kernel
set_option maxRecDepth 100000 in
theorem xa_121 : xall 121 = true := by decide +kernel
set_option maxRecDepth 100000 in
theorem xa_122 : xall 122 = true := by decide +kernel
set_option maxRecDepth 100000 in
theorem xa_123 : xall 123 = true := by decide +kernel
set_option maxRecDepth 100000 in
theorem xa_124 : xall 124 = true := by decide +kernel
set_option maxRecDepth 100000 in
theorem xa_125 : xall 125 = true := by decide +kernel
set_option maxRecDepth 100000 in
theorem xa_126 : xall 126 = true := by decide +kernel
set_option maxRecDepth 100000 in
theorem xa_127 : xall 127 = true := by decide +kernel
set_option maxRecDepth 100000 in
theorem xa_128 : xall 128 = true := by decide +kernel
set_option maxRecDepth 100000 in
theorem xa_129 : xall 129 = true := by decide +kernel
set_option maxRecDepth 100000 in
theorem xa_130 : xall 130 = true := by decide +kernel
set_option maxRecDepth 100000 in
theorem xa_131 : xall 131 = true := by decide +kernel
set_option maxRecDepth 100000 in
theorem xa_132 : xall 132 = true := by decide +kernel
set_option maxRecDepth 100000 in
theorem xa_133 : xall 133 = true := by decide +kernel
set_option maxRecDepth 100000 in
theorem xa_134 : xall 134 = true := by decide +kernel
set_option maxRecDepth 100000 in
theorem xa_135 : xall 135 = true := by decide +kernel
