set_option maxRecDepth 100000 in
theorem xa_157 : xall 157 = true := by decide +kernel
set_option maxRecDepth 100000 in
theorem xa_158 : xall 158 = true := by decide +kernel
set_option maxRecDepth 100000 in
theorem xa_159 : xall 159 = true := by decide +kernel
set_option maxRecDepth 100000 in
theorem xa_160 : xall 160 = true := by decide +kernel
set_option maxRecDepth 100000 in
theorem xa_161 : xall 161 = true := by decide +kernel
set_option maxRecDepth 100000 in
theorem xa_162 : xall 162 = true := by decide +kernel
set_option maxRecDepth 100000 in
theorem xa_163 : xall 163 = true := by decide +kernel
set_option maxRecDepth 100000 in
theorem xa_164 : xall 164 = true := by decide +kernel
set_option maxRecDepth 100000 in
theorem xa_165 : xall 165 = true := by decide +kernel
