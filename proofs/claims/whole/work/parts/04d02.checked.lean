set_option maxRecDepth 100000 in
theorem xn_112 : xokM 112 = true := by decide +kernel
set_option maxRecDepth 100000 in
theorem xn_113 : xokM 113 = true := by decide +kernel
set_option maxRecDepth 100000 in
theorem xn_114 : xokM 114 = true := by decide +kernel
set_option maxRecDepth 100000 in
theorem xn_115 : xokM 115 = true := by decide +kernel
set_option maxRecDepth 100000 in
theorem xn_116 : xokM 116 = true := by decide +kernel
set_option maxRecDepth 100000 in
theorem xn_117 : xokM 117 = true := by decide +kernel
set_option maxRecDepth 100000 in
theorem xn_118 : xokM 118 = true := by decide +kernel
set_option maxRecDepth 100000 in
theorem xn_119 : xokM 119 = true := by decide +kernel
set_option maxRecDepth 100000 in
theorem xn_120 : xokM 120 = true := by decide +kernel
set_option maxRecDepth 100000 in
theorem xn_121 : xokM 121 = true := by decide +kernel
set_option maxRecDepth 100000 in
theorem xn_122 : xokM 122 = true := by decide +kernel
set_option maxRecDepth 100000 in
theorem xn_123 : xokM 123 = true := by decide +kernel
set_option maxRecDepth 100000 in
theorem xn_124 : xokM 124 = true := by decide +kernel
set_option maxRecDepth 100000 in
theorem xn_125 : xokM 125 = true := by decide +kernel
set_option maxRecDepth 100000 in
theorem xn_126 : xokM 126 = true := by decide +kernel
set_option maxRecDepth 100000 in
theorem xn_127 : xokM 127 = true := by decide +kernel
set_option maxRecDepth 100000 in
theorem xn_128 : xokM 128 = true := by decide +kernel
set_option maxRecDepth 100000 in
theorem xn_129 : xokM 129 = true := by decide +kernel
set_option maxRecDepth 100000 in
theorem xn_130 : xokM 130 = true := by decide +kernel
set_option maxRecDepth 100000 in
theorem xn_131 : xokM 131 = true := by decide +kernel
set_option maxRecDepth 100000 in
theorem xn_132 : xokM 132 = true := by decide +kernel
set_option maxRecDepth 100000 in
theorem xn_133 : xokM 133 = true := by decide +kernel
set_option maxRecDepth 100000 in
theorem xn_134 : xokM 134 = true := by decide +kernel
set_option maxRecDepth 100000 in
theorem xn_135 : xokM 135 = true := by decide +kernel
set_option maxRecDepth 100000 in
theorem xn_136 : xokM 136 = true := by decide +kernel
set_option maxRecDepth 100000 in
theorem xn_137 : xokM 137 = true := by decide +kernel
set_option maxRecDepth 100000 in
theorem xn_138 : xokM 138 = true := by decide +kernel
set_option maxRecDepth 100000 in
theorem xn_139 : xokM 139 = true := by decide +kernel
set_option maxRecDepth 100000 in
theorem xn_140 : xokM 140 = true := by decide +kernel
set_option maxRecDepth 100000 in
theorem xn_141 : xokM 141 = true := by decide +kernel
set_option maxRecDepth 100000 in
theorem xn_142 : xokM 142 = true := by decide +kernel
set_option maxRecDepth 100000 in
theorem xn_143 : xokM 143 = true := by decide +kernel
set_option maxRecDepth 100000 in
theorem xn_144 : xokM 144 = true := by decide +kernel
set_option maxRecDepth 100000 in
theorem xn_145 : xokM 145 = true := by decide +kernel
set_option maxRecDepth 100000 in
theorem xn_146 : xokM 146 = true := by decide +kernel
set_option maxRecDepth 100000 in
theorem xn_147 : xokM 147 = true := by decide +kernel
set_option maxRecDepth 100000 in
theorem xn_148 : xokM 148 = true := by decide +kernel
set_option maxRecDepth 100000 in
theorem xn_149 : xokM 149 = true := by decide +kernel
set_option maxRecDepth 100000 in
theorem xn_150 : xokM 150 = true := by decide +kernel
set_option maxRecDepth 100000 in
theorem xn_151 : xokM 151 = true := by decide +kernel
set_option maxRecDepth 100000 in
theorem xn_152 : xokM 152 = true := by decide +kernel
set_option maxRecDepth 100000 in
theorem xn_153 : xokM 153 = true := by decide +kernel
set_option maxRecDepth 100000 in
theorem xn_154 : xokM 154 = true := by decide +kernel
set_option maxRecDepth 100000 in
theorem xn_155 : xokM 155 = true := by decide +kernel
set_option maxRecDepth 100000 in
theorem xn_156 : xokM 156 = true := by decide +kernel
set_option maxRecDepth 100000 in
theorem xn_157 : xokM 157 = true := by decide +kernel
set_option maxRecDepth 100000 in
theorem xn_158 : xokM 158 = true := by decide +kernel
set_option maxRecDepth 100000 in
theorem xn_159 : xokM 159 = true := by decide +kernel
set_option maxRecDepth 100000 in
theorem xn_160 : xokM 160 = true := by decide +kernel
set_option maxRecDepth 100000 in
theorem xn_161 : xokM 161 = true := by decide +kernel
set_option maxRecDepth 100000 in
theorem xn_162 : xokM 162 = true := by decide +kernel
set_option maxRecDepth 100000 in
theorem xn_163 : xokM 163 = true := by decide +kernel
set_option maxRecDepth 100000 in
theorem xn_164 : xokM 164 = true := by decide +kernel
set_option maxRecDepth 100000 in
theorem xn_165 : xokM 165 = true := by decide +kernel
set_option maxRecDepth 100000 in
theorem xn_166 : xokM 166 = true := by decide +kernel
set_option maxRecDepth 100000 in
theorem xn_167 : xokM 167 = true := by decide +kernel
