set_option maxRecDepth 100000 in
theorem xa_176 : xall 176 = true := by decide +kernel
set_option maxRecDepth 100000 in
theorem xa_177 : xall 177 = true := by decide +kernel
set_option maxRecDepth 100000 in
theorem xa_178 : xall 178 = true := by decide +kernel
set_option maxRecDepth 100000 in
theorem xa_179 : xall 179 = true := by decide +kernel
set_option maxRecDepth 100000 in
theorem xa_180 : xall 180 = true := by decide +kernel
set_option maxRecDepth 100000 in
theorem xa_181 : xall 181 = true := by decide +kernel
set_option maxRecDepth 100000 in
theorem xa_182 : xall 182 = true := by decide +kernel
set_option maxRecDepth 100000 in
theorem xa_183 : xall 183 = true := by decide +kernel
set_option maxRecDepth 100000 in
theorem xa_184 : xall 184 = true := by decide +kernel
set_option maxRecDepth 100000 in
theorem xa_185 : xall 185 = true := by decide +kernel
set_option maxRecDepth 100000 in
theorem xa_186 : xall 186 = true := by decide +kernel
