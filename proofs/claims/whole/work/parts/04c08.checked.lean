set_option maxRecDepth 100000 in
theorem xa_166 : xall 166 = true := by decide +kernel
set_option maxRecDepth 100000 in
theorem xa_167 : xall 167 = true := by decide +kernel
set_option maxRecDepth 100000 in
theorem xa_168 : xall 168 = true := by decide +kernel
set_option maxRecDepth 100000 in
theorem xa_169 : xall 169 = true := by decide +kernel
set_option maxRecDepth 100000 in
theorem xa_170 : xall 170 = true := by decide +kernel
set_option maxRecDepth 100000 in
theorem xa_171 : xall 171 = true := by decide +kernel
set_option maxRecDepth 100000 in
theorem xa_172 : xall 172 = true := by decide +kernel
set_option maxRecDepth 100000 in
theorem xa_173 : xall 173 = true := by decide +kernel
set_option maxRecDepth 100000 in
theorem xa_174 : xall 174 = true := by decide +kernel
set_option maxRecDepth 100000 in
theorem xa_175 : xall 175 = true := by decide +kernel
