set_option maxRecDepth 100000 in
theorem xa_197 : xall 197 = true := by decide +kernel
set_option maxRecDepth 100000 in
theorem xa_198 : xall 198 = true := by decide +kernel
set_option maxRecDepth 100000 in
theorem xa_199 : xall 199 = true := by decide +kernel
set_option maxRecDepth 100000 in
theorem xa_200 : xall 200 = true := by decide +kernel
set_option maxRecDepth 100000 in
theorem xa_201 : xall 201 = true := by decide +kernel
set_option maxRecDepth 100000 in
theorem xa_202 : xall 202 = true := by decide +kernel
set_option maxRecDepth 100000 in
theorem xa_203 : xall 203 = true := by decide +kernel
set_option maxRecDepth 100000 in
theorem xa_204 : xall 204 = true := by decide +kernel
set_option maxRecDepth 100000 in
theorem xa_205 : xall 205 = true := by decide +kernel
set_option maxRecDepth 100000 in
theorem xa_206 : xall 206 = true := by decide +kernel
set_option maxRecDepth 100000 in
theorem xa_207 : xall 207 = true := by decide +kernel
set_option maxRecDepth 100000 in
theorem xa_208 : xall 208 = true := by decide +kernel
set_option maxRecDepth 100000 in
theorem xa_209 : xall 209 = true := by decide +kernel
set_option maxRecDepth 100000 in
theorem xa_210 : xall 210 = true := by decide +kernel
set_option maxRecDepth 100000 in
theorem xa_211 : xall 211 = true := by decide +kernel
set_option maxRecDepth 100000 in
theorem xa_212 : xall 212 = true := by decide +kernel
set_option maxRecDepth 100000 in
theorem xa_213 : xall 213 = true := by decide +kernel
set_option maxRecDepth 100000 in
theorem xa_214 : xall 214 = true := by decide +kernel
set_option maxRecDepth 100000 in
theorem xa_215 : xall 215 = true := by decide +kernel
set_option maxRecDepth 100000 in
theorem xa_216 : xall 216 = true := by decide +kernel
set_option maxRecDepth 100000 in
theorem xa_217 : xall 217 = true := by decide +kernel
set_option maxRecDepth 100000 in
theorem xa_218 : xall 218 = true := by decide +kernel
set_option maxRecDepth 100000 in
theorem xa_219 : xall 219 = true := by decide +kernel
set_option maxRecDepth 100000 in
theorem xa_220 : xall 220 = true := by decide +kernel
