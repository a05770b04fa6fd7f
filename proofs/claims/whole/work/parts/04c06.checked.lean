set_option maxRecDepth 100000 in
theorem xa_136 : xall 136 = true := by decide +kernel
set_option maxRecDepth 100000 in
theorem xa_137 : xall 137 = true := by decide +kernel
set_option maxRecDepth 100000 in
theorem xa_138 : xall 138 = true := by decide +kernel
set_option maxRecDepth 100000 in
theorem xa_139 : xall 139 = true := by decide +kernel
set_option maxRecDepth 100000 in
theorem xa_140 : xall 140 = true := by decide +kernel
set_option maxRecDepth 100000 in
theorem xa_141 : xall 141 = true := by decide +kernel
set_option maxRecDepth 100000 in
theorem xa_142 : xall 142 = true := by decide +kernel
set_option maxRecDepth 100000 in
theorem xa_143 : xall 143 = true := by decide +kernel
set_option maxRecDepth 100000 in
theorem xa_144 : xall 144 = true := by decide +kernel
set_option maxRecDepth 100000 in
theorem xa_145 : xall 145 = true := by decide +kernel
set_option maxRecDepth 100000 in
theorem xa_146 : xall 146 = true := by decide +kernel
set_option maxRecDepth 100000 in
theorem xa_147 : xall 147 = true := by decide +kernel
set_option maxRecDepth 100000 in
theorem xa_148 : xall 148 = true := by decide +kernel
set_option maxRecDepth 100000 in
theorem xa_149 : xall 149 = true := by decide +kernel
set_option maxRecDepth 100000 in
theorem xa_150 : xall 150 = true := by decide +kernel
set_option maxRecDepth 100000 in
theorem xa_151 : xall 151 = true := by decide +kernel
set_option maxRecDepth 100000 in
theorem xa_152 : xall 152 = true := by decide +kernel
set_option maxRecDepth 100000 in
theorem xa_153 : xall 153 = true := by decide +kernel
set_option maxRecDepth 100000 in
theorem xa_154 : xall 154 = true := by decide +kernel
set_option maxRecDepth 100000 in
theorem xa_155 : xall 155 = true := by decide +kernel
set_option maxRecDepth 100000 in
theorem xa_156 : xall 156 = true := by decide +kernel
