set_option maxRecDepth 100000 in
theorem xn_168 : xokM 168 = true := by decide +kernel
set_option maxRecDepth 100000 in
theorem xn_169 : xokM 169 = true := by decide +kernel
set_option maxRecDepth 100000 in
theorem xn_170 : xokM 170 = true := by decide +kernel
set_option maxRecDepth 100000 in
theorem xn_171 : xokM 171 = true := by decide +kernel
set_option maxRecDepth 100000 in
theorem xn_172 : xokM 172 = true := by decide +kernel
set_option maxRecDepth 100000 in
theorem xn_173 : xokM 173 = true := by decide +kernel
set_option maxRecDepth 100000 in
theorem xn_174 : xokM 174 = true := by decide +kernel
set_option maxRecDepth 100000 in
theorem xn_175 : xokM 175 = true := by decide +kernel
set_option maxRecDepth 100000 in
theorem xn_176 : xokM 176 = true := by decide +kernel
set_option maxRecDepth 100000 in
theorem xn_177 : xokM 177 = true := by decide +kernel
set_option maxRecDepth 100000 in
theorem xn_178 : xokM 178 = true := by decide +kernel
set_option maxRecDepth 100000 in
theorem xn_179 : xokM 179 = true := by decide +kernel
set_option maxRecDepth 100000 in
theorem xn_180 : xokM 180 = true := by decide +kernel
set_option maxRecDepth 100000 in
theorem xn_181 : xokM 181 = true := by decide +kernel
set_option maxRecDepth 100000 in
theorem xn_182 : xokM 182 = true := by decide +kernel
set_option maxRecDepth 100000 in
theorem xn_183 : xokM 183 = true := by decide +kernel
set_option maxRecDepth 100000 in
theorem xn_184 : xokM 184 = true := by decide +kernel
set_option maxRecDepth 100000 in
theorem xn_185 : xokM 185 = true := by decide +kernel
set_option maxRecDepth 100000 in
theorem xn_186 : xokM 186 = true := by decide +kernel
set_option maxRecDepth 100000 in
theorem xn_187 : xokM 187 = true := by decide +kernel
set_option maxRecDepth 100000 in
theorem xn_188 : xokM 188 = true := by decide +kernel
set_option maxRecDepth 100000 in
theorem xn_189 : xokM 189 = true := by decide +kernel
set_option maxRecDepth 100000 in
theorem xn_190 : xokM 190 = true := by decide +kernel
set_option maxRecDepth 100000 in
theorem xn_191 : xokM 191 = true := by decide +kernel
set_option maxRecDepth 100000 in
theorem xn_192 : xokM 192 = true := by decide +kernel
set_option maxRecDepth 100000 in
theorem xn_193 : xokM 193 = true := by decide +kernel
set_option maxRecDepth 100000 in
theorem xn_194 : xokM 194 = true := by decide +kernel
set_option maxRecDepth 100000 in
theorem xn_195 : xokM 195 = true := by decide +kernel
set_option maxRecDepth 100000 in
theorem xn_196 : xokM 196 = true := by decide +kernel
set_option maxRecDepth 100000 in
theorem xn_197 : xokM 197 = true := by decide +kernel
set_option maxRecDepth 100000 in
theorem xn_198 : xokM 198 = true := by decide +kernel
set_option maxRecDepth 100000 in
theorem xn_199 : xokM 199 = true := by decide +kernel
set_option maxRecDepth 100000 in
theorem xn_200 : xokM 200 = true := by decide +kernel
set_option maxRecDepth 100000 in
theorem xn_201 : xokM 201 = true := by decide +kernel
set_option maxRecDepth 100000 in
theorem xn_202 : xokM 202 = true := by decide +kernel
set_option maxRecDepth 100000 in
theorem xn_203 : xokM 203 = true := by decide +kernel
set_option maxRecDepth 100000 in
theorem xn_204 : xokM 204 = true := by decide +kernel
set_option maxRecDepth 100000 in
theorem xn_205 : xokM 205 = true := by decide +kernel
set_option maxRecDepth 100000 in
theorem xn_206 : xokM 206 = true := by decide +kernel
set_option maxRecDepth 100000 in
theorem xn_207 : xokM 207 = true := by decide +kernel
set_option maxRecDepth 100000 in
theorem xn_208 : xokM 208 = true := by decide +kernel
set_option maxRecDepth 100000 in
theorem xn_209 : xokM 209 = true := by decide +kernel
set_option maxRecDepth 100000 in
theorem xn_210 : xokM 210 = true := by decide +kernel
set_option maxRecDepth 100000 in
theorem xn_211 : xokM 211 = true := by decide +kernel
set_option maxRecDepth 100000 in
theorem xn_212 : xokM 212 = true := by decide +kernel
set_option maxRecDepth 100000 in
theorem xn_213 : xokM 213 = true := by decide +kernel
set_option maxRecDepth 100000 in
theorem xn_214 : xokM 214 = true := by decide +kernel
set_option maxRecDepth 100000 in
theorem xn_215 : xokM 215 = true := by decide +kernel
set_option maxRecDepth 100000 in
theorem xn_216 : xokM 216 = true := by decide +kernel
set_option maxRecDepth 100000 in
theorem xn_217 : xokM 217 = true := by decide +kernel
set_option maxRecDepth 100000 in
theorem xn_218 : xokM 218 = true := by decide +kernel
set_option maxRecDepth 100000 in
theorem xn_219 : xokM 219 = true := by decide +kernel
set_option maxRecDepth 100000 in
theorem xn_220 : xokM 220 = true := by decide +kernel
