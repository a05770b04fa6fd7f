set_option maxRecDepth 100000 in
theorem xa_0 : (List.range' 0 13).all xall = true := by decide +kernel
set_option maxRecDepth 100000 in
theorem xa_13 : (List.range' 13 13).all xall = true := by decide +kernel
set_option maxRecDepth 100000 in
theorem xa_26 : (List.range' 26 13).all xall = true := by decide +kernel
set_option maxRecDepth 100000 in
theorem xa_39 : (List.range' 39 13).all xall = true := by decide +kernel
set_option maxRecDepth 100000 in
theorem xa_52 : (List.range' 52 13).all xall = true := by decide +kernel
set_option maxRecDepth 100000 in
theorem xa_65 : (List.range' 65 13).all xall = true := by decide +kernel
set_option maxRecDepth 100000 in
theorem xa_78 : (List.range' 78 13).all xall = true := by decide +kernel
set_option maxRecDepth 100000 in
theorem xa_91 : (List.range' 91 13).all xall = true := by decide +kernel
set_option maxRecDepth 100000 in
theorem xa_104 : (List.range' 104 13).all xall = true := by decide +kernel
set_option maxRecDepth 100000 in
theorem xa_117 : (List.range' 117 13).all xall = true := by decide +kernel
set_option maxRecDepth 100000 in
theorem xa_130 : (List.range' 130 13).all xall = true := by decide +kernel
set_option maxRecDepth 100000 in
theorem xa_143 : (List.range' 143 13).all xall = true := by decide +kernel
set_option maxRecDepth 100000 in
theorem xa_156 : (List.range' 156 13).all xall = true := by decide +kernel
set_option maxRecDepth 100000 in
theorem xa_169 : (List.range' 169 13).all xall = true := by decide +kernel
set_option maxRecDepth 100000 in
theorem xa_182 : (List.range' 182 13).all xall = true := by decide +kernel
set_option maxRecDepth 100000 in
theorem xa_195 : (List.range' 195 13).all xall = true := by decide +kernel
set_option maxRecDepth 100000 in
theorem xa_208 : (List.range' 208 13).all xall = true := by decide +kernel
set_option maxRecDepth 100000 in
theorem xam : (List.range 221).all xokM = true := by decide +kernel
theorem xall_of {mi : Nat} (h : mi < 221) : xall mi = true := by
  rcases Nat.lt_or_ge mi 13 with q | q
  · exact List.all_eq_true.mp xa_0 mi (List.mem_range'_1.mpr ⟨by omega, by omega⟩)
  rcases Nat.lt_or_ge mi 26 with q | q
  · exact List.all_eq_true.mp xa_13 mi (List.mem_range'_1.mpr ⟨by omega, by omega⟩)
  rcases Nat.lt_or_ge mi 39 with q | q
  · exact List.all_eq_true.mp xa_26 mi (List.mem_range'_1.mpr ⟨by omega, by omega⟩)
  rcases Nat.lt_or_ge mi 52 with q | q
  · exact List.all_eq_true.mp xa_39 mi (List.mem_range'_1.mpr ⟨by omega, by omega⟩)
  rcases Nat.lt_or_ge mi 65 with q | q
  · exact List.all_eq_true.mp xa_52 mi (List.mem_range'_1.mpr ⟨by omega, by omega⟩)
  rcases Nat.lt_or_ge mi 78 with q | q
  · exact List.all_eq_true.mp xa_65 mi (List.mem_range'_1.mpr ⟨by omega, by omega⟩)
  rcases Nat.lt_or_ge mi 91 with q | q
  · exact List.all_eq_true.mp xa_78 mi (List.mem_range'_1.mpr ⟨by omega, by omega⟩)
  rcases Nat.lt_or_ge mi 104 with q | q
  · exact List.all_eq_true.mp xa_91 mi (List.mem_range'_1.mpr ⟨by omega, by omega⟩)
  rcases Nat.lt_or_ge mi 117 with q | q
  · exact List.all_eq_true.mp xa_104 mi (List.mem_range'_1.mpr ⟨by omega, by omega⟩)
  rcases Nat.lt_or_ge mi 130 with q | q
  · exact List.all_eq_true.mp xa_117 mi (List.mem_range'_1.mpr ⟨by omega, by omega⟩)
  rcases Nat.lt_or_ge mi 143 with q | q
  · exact List.all_eq_true.mp xa_130 mi (List.mem_range'_1.mpr ⟨by omega, by omega⟩)
  rcases Nat.lt_or_ge mi 156 with q | q
  · exact List.all_eq_true.mp xa_143 mi (List.mem_range'_1.mpr ⟨by omega, by omega⟩)
  rcases Nat.lt_or_ge mi 169 with q | q
  · exact List.all_eq_true.mp xa_156 mi (List.mem_range'_1.mpr ⟨by omega, by omega⟩)
  rcases Nat.lt_or_ge mi 182 with q | q
  · exact List.all_eq_true.mp xa_169 mi (List.mem_range'_1.mpr ⟨by omega, by omega⟩)
  rcases Nat.lt_or_ge mi 195 with q | q
  · exact List.all_eq_true.mp xa_182 mi (List.mem_range'_1.mpr ⟨by omega, by omega⟩)
  rcases Nat.lt_or_ge mi 208 with q | q
  · exact List.all_eq_true.mp xa_195 mi (List.mem_range'_1.mpr ⟨by omega, by omega⟩)
  rcases Nat.lt_or_ge mi 221 with q | q
  · exact List.all_eq_true.mp xa_208 mi (List.mem_range'_1.mpr ⟨by omega, by omega⟩)
  · omega
theorem xokM_of {mi : Nat} (h : mi < 221) : xokM mi = true := List.all_eq_true.mp xam mi (List.mem_range.mpr h)
