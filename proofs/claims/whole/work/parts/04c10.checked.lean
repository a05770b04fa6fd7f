set_option maxRecDepth 100000 in
theorem xa_187 : xall 187 = true := by decide +kernel
set_option maxRecDepth 100000 in
theorem xa_188 : xall 188 = true := by decide +kernel
set_option maxRecDepth 100000 in
theorem xa_189 : xall 189 = true := by decide +kernel
set_option maxRecDepth 100000 in
theorem xa_190 : xall 190 = true := by decide +kernel
set_option maxRecDepth 100000 in
theorem xa_191 : xall 191 = true := by decide +kernel
set_option maxRecDepth 100000 in
theorem xa_192 : xall 192 = true := by decide +kernel
set_option maxRecDepth 100000 in
theorem xa_193 : xall 193 = true := by decide +kernel
set_option maxRecDepth 100000 in
theorem xa_194 : xall 194 = true := by decide +kernel
set_option maxRecDepth 100000 in
theorem xa_195 : xall 195 = true := by decide +kernel
set_option maxRecDepth 100000 in
theorem xa_196 : xall 196 = true := by decide +kernel
