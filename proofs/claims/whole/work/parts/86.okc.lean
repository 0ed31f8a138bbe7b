set_option maxRecDepth 100000 in
theorem zok_82 : zokM 82 = true := by decide +kernel
set_option maxRecDepth 100000 in
theorem zok_83 : zokM 83 = true := by decide +kernel
set_option maxRecDepth 100000 in
theorem zok_84 : zokM 84 = true := by decide +kernel
set_option maxRecDepth 100000 in
theorem zok_85 : zokM 85 = true := by decide +kernel
set_option maxRecDepth 100000 in
theorem zok_86 : zokM 86 = true := by decide +kernel
set_option maxRecDepth 100000 in
theorem zok_87 : zokM 87 = true := by decide +kernel
set_option maxRecDepth 100000 in
theorem zok_88 : zokM 88 = true := by decide +kernel
set_option maxRecDepth 100000 in
theorem zok_89 : zokM 89 = true := by decide +kernel
set_option maxRecDepth 100000 in
theorem zok_90 : zokM 90 = true := by decide +kernel
set_option maxRecDepth 100000 in
theorem zok_91 : zokM 91 = true := by decide +kernel
set_option maxRecDepth 100000 in
theorem zok_92 : zokM 92 = true := by decide +kernel
set_option maxRecDepth 100000 in
theorem zok_93 : zokM 93 = true := by decide +kernel
set_option maxRecDepth 100000 in
theorem zok_94 : zokM 94 = true := by decide +kernel
set_option maxRecDepth 100000 in
theorem zok_95 : zokM 95 = true := by decide +kernel
set_option maxRecDepth 100000 in
theorem zok_96 : zokM 96 = true := by decide +kernel
set_option maxRecDepth 100000 in
theorem zok_97 : zokM 97 = true := by decide +kernel
set_option maxRecDepth 100000 in
theorem zok_98 : zokM 98 = true := by decide +kernel
set_option maxRecDepth 100000 in
theorem zok_99 : zokM 99 = true := by decide +kernel
set_option maxRecDepth 100000 in
theorem zok_100 : zokM 100 = true := by decide +kernel
set_option maxRecDepth 100000 in
theorem zok_101 : zokM 101 = true := by decide +kernel
set_option maxRecDepth 100000 in
theorem zok_102 : zokM 102 = true := by decide +kernel
set_option maxRecDepth 100000 in
theorem zok_103 : zokM 103 = true := by decide +kernel
set_option maxRecDepth 100000 in
theorem zok_104 : zokM 104 = true := by decide +kernel
set_option maxRecDepth 100000 in
theorem zok_105 : zokM 105 = true := by decide +kernel
set_option maxRecDepth 100000 in
theorem zok_106 : zokM 106 = true := by decide +kernel
set_option maxRecDepth 100000 in
theorem zok_107 : zokM 107 = true := by decide +kernel
set_option maxRecDepth 100000 in
theorem zok_108 : zokM 108 = true := by decide +kernel
set_option maxRecDepth 100000 in
theorem zok_109 : zokM 109 = true := by decide +kernel
set_option maxRecDepth 100000 in
theorem zok_110 : zokM 110 = true := by decide +kernel
set_option maxRecDepth 100000 in
theorem zok_111 : zokM 111 = true := by decide +kernel
set_option maxRecDepth 100000 in
theorem zok_112 : zokM 112 = true := by decide +kernel
set_option maxRecDepth 100000 in
theorem zok_113 : zokM 113 = true := by decide +kernel
set_option maxRecDepth 100000 in
theorem zok_114 : zokM 114 = true := by decide +kernel
set_option maxRecDepth 100000 in
theorem zok_115 : zokM 115 = true := by decide +kernel
set_option maxRecDepth 100000 in
theorem zok_116 : zokM 116 = true := by decide +kernel
set_option maxRecDepth 100000 in
theorem zok_117 : zokM 117 = true := by decide +kernel
set_option maxRecDepth 100000 in
theorem zok_118 : zokM 118 = true := by decide +kernel
set_option maxRecDepth 100000 in
theorem zok_119 : zokM 119 = true := by decide +kernel
set_option maxRecDepth 100000 in
theorem zok_120 : zokM 120 = true := by decide +kernel
set_option maxRecDepth 100000 in
theorem zok_121 : zokM 121 = true := by decide +kernel
set_option maxRecDepth 100000 in
theorem zok_122 : zokM 122 = true := by decide +kernel
