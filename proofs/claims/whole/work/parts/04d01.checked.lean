set_option maxRecDepth 100000 in
theorem xn_56 : xokM 56 = true := by decide +kernel
set_option maxRecDepth 100000 in
theorem xn_57 : xokM 57 = true := by decide +kernel
set_option maxRecDepth 100000 in
theorem xn_58 : xokM 58 = true := by decide +kernel
set_option maxRecDepth 100000 in
theorem xn_59 : xokM 59 = true := by decide +kernel
set_option maxRecDepth 100000 in
theorem xn_60 : xokM 60 = true := by decide +kernel
set_option maxRecDepth 100000 in
theorem xn_61 : xokM 61 = true := by decide +kernel
set_option maxRecDepth 100000 in
theorem xn_62 : xokM 62 = true := by decide +kernel
set_option maxRecDepth 100000 in
theorem xn_63 : xokM 63 = true := by decide +kernel
set_option maxRecDepth 100000 in
theorem xn_64 : xokM 64 = true := by decide +kernel
set_option maxRecDepth 100000 in
theorem xn_65 : xokM 65 = true := by decide +kernel
set_option maxRecDepth 100000 in
theorem xn_66 : xokM 66 = true := by decide +kernel
set_option maxRecDepth 100000 in
theorem xn_67 : xokM 67 = true := by decide +kernel
set_option maxRecDepth 100000 in
theorem xn_68 : xokM 68 = true := by decide +kernel
set_option maxRecDepth 100000 in
theorem xn_69 : xokM 69 = true := by decide +kernel
set_option maxRecDepth 100000 in
theorem xn_70 : xokM 70 = true := by decide +kernel
set_option maxRecDepth 100000 in
theorem xn_71 : xokM 71 = true := by decide +kernel
set_option maxRecDepth 100000 in
theorem xn_72 : xokM 72 = true := by decide +kernel
set_option maxRecDepth 100000 in
theorem xn_73 : xokM 73 = true := by decide +kernel
set_option maxRecDepth 100000 in
theorem xn_74 : xokM 74 = true := by decide +kernel
set_option maxRecDepth 100000 in
theorem xn_75 : xokM 75 = true := by decide +kernel
set_option maxRecDepth 100000 in
theorem xn_76 : xokM 76 = true := by decide +kernel
set_option maxRecDepth 100000 in
theorem xn_77 : xokM 77 = true := by decide +kernel
set_option maxRecDepth 100000 in
theorem xn_78 : xokM 78 = true := by decide +kernel
set_option maxRecDepth 100000 in
theorem xn_79 : xokM 79 = true := by decide +kernel
set_option maxRecDepth 100000 in
theorem xn_80 : xokM 80 = true := by decide +kernel
set_option maxRecDepth 100000 in
theorem xn_81 : xokM 81 = true := by decide +kernel
set_option maxRecDepth 100000 in
theorem xn_82 : xokM 82 = true := by decide +kernel
set_option maxRecDepth 100000 in
theorem xn_83 : xokM 83 = true := by decide +kernel
set_option maxRecDepth 100000 in
theorem xn_84 : xokM 84 = true := by decide +kernel
set_option maxRecDepth 100000 in
theorem xn_85 : xokM 85 = true := by decide +kernel
set_option maxRecDepth 100000 in
theorem xn_86 : xokM 86 = true := by decide +kernel
set_option maxRecDepth 100000 in
theorem xn_87 : xokM 87 = true := by decide +kernel
set_option maxRecDepth 100000 in
theorem xn_88 : xokM 88 = true := by decide +kernel
set_option maxRecDepth 100000 in
theorem xn_89 : xokM 89 = true := by decide +kernel
set_option maxRecDepth 100000 in
theorem xn_90 : xokM 90 = true := by decide +kernel
set_option maxRecDepth 100000 in
theorem xn_91 : xokM 91 = true := by decide +kernel
set_option maxRecDepth 100000 in
theorem xn_92 : xokM 92 = true := by decide +kernel
set_option maxRecDepth 100000 in
theorem xn_93 : xokM 93 = true := by decide +kernel
set_option maxRecDepth 100000 in
theorem xn_94 : xokM 94 = true := by decide +kernel
set_option maxRecDepth 100000 in
theorem xn_95 : xokM 95 = true := by decide +kernel
set_option maxRecDepth 100000 in
theorem xn_96 : xokM 96 = true := by decide +kernel
set_option maxRecDepth 100000 in
theorem xn_97 : xokM 97 = true := by decide +kernel
set_option maxRecDepth 100000 in
theorem xn_98 : xokM 98 = true := by decide +kernel
set_option maxRecDepth 100000 in
theorem xn_99 : xokM 99 = true := by decide +kernel
set_option maxRecDepth 100000 in
theorem xn_100 : xokM 100 = true := by decide +kernel
set_option maxRecDepth 100000 in
theorem xn_101 : xokM 101 = true := by decide +kernel
set_option maxRecDepth 100000 in
theorem xn_102 : xokM 102 = true := by decide +kernel
set_option maxRecDepth 100000 in
theorem xn_103 : xokM 103 = true := by decide +kernel
set_option maxRecDepth 100000 in
theorem xn_104 : xokM 104 = true := by decide +kernel
set_option maxRecDepth 100000 in
theorem xn_105 : xokM 105 = true := by decide +kernel
set_option maxRecDepth 100000 in
theorem xn_106 : xokM 106 = true := by decide +kernel
set_option maxRecDepth 100000 in
theorem xn_107 : xokM 107 = true := by decide +kernel
set_option maxRecDepth 100000 in
theorem xn_108 : xokM 108 = true := by decide +kernel
set_option maxRecDepth 100000 in
theorem xn_109 : xokM 109 = true := by decide +kernel
set_option maxRecDepth 100000 in
theorem xn_110 : xokM 110 = true := by decide +kernel
set_option maxRecDepth 100000 in
theorem xn_111 : xokM 111 = true := by decide +kernel
