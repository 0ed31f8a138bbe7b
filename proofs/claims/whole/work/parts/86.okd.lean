set_option maxRecDepth 100000 in
theorem zok_123 : zokM 123 = true := by decide +kernel
set_option maxRecDepth 100000 in
theorem zok_124 : zokM 124 = true := by decide +kernel
set_option maxRecDepth 100000 in
theorem zok_125 : zokM 125 = true := by decide +kernel
set_option maxRecDepth 100000 in
theorem zok_126 : zokM 126 = true := by decide +kernel
set_option maxRecDepth 100000 in
theorem zok_127 : zokM 127 = true := by decide +kernel
set_option maxRecDepth 100000 in
theorem zok_128 : zokM 128 = true := by decide +kernel
set_option maxRecDepth 100000 in
theorem zok_129 : zokM 129 = true := by decide +kernel
set_option maxRecDepth 100000 in
theorem zok_130 : zokM 130 = true := by decide +kernel
set_option maxRecDepth 100000 in
theorem zok_131 : zokM 131 = true := by decide +kernel
set_option maxRecDepth 100000 in
theorem zok_132 : zokM 132 = true := by decide +kernel
set_option maxRecDepth 100000 in
theorem zok_133 : zokM 133 = true := by decide +kernel
set_option maxRecDepth 100000 in
theorem zok_134 : zokM 134 = true := by decide +kernel
set_option maxRecDepth 100000 in
theorem zok_135 : zokM 135 = true := by decide +kernel
set_option maxRecDepth 100000 in
theorem zok_136 : zokM 136 = true := by decide +kernel
set_option maxRecDepth 100000 in
theorem zok_137 : zokM 137 = true := by decide +kernel
set_option maxRecDepth 100000 in
theorem zok_138 : zokM 138 = true := by decide +kernel
set_option maxRecDepth 100000 in
theorem zok_139 : zokM 139 = true := by decide +kernel
set_option maxRecDepth 100000 in
theorem zok_140 : zokM 140 = true := by decide +kernel
set_option maxRecDepth 100000 in
theorem zok_141 : zokM 141 = true := by decide +kernel
set_option maxRecDepth 100000 in
theorem zok_142 : zokM 142 = true := by decide +kernel
set_option maxRecDepth 100000 in
theorem zok_143 : zokM 143 = true := by decide +kernel
set_option maxRecDepth 100000 in
theorem zok_144 : zokM 144 = true := by decide +kernel
set_option maxRecDepth 100000 in
theorem zok_145 : zokM 145 = true := by decide +kernel
set_option maxRecDepth 100000 in
theorem zok_146 : zokM 146 = true := by decide +kernel
set_option maxRecDepth 100000 in
theorem zok_147 : zokM 147 = true := by decide +kernel
set_option maxRecDepth 100000 in
theorem zok_148 : zokM 148 = true := by decide +kernel
set_option maxRecDepth 100000 in
theorem zok_149 : zokM 149 = true := by decide +kernel
set_option maxRecDepth 100000 in
theorem zok_150 : zokM 150 = true := by decide +kernel
set_option maxRecDepth 100000 in
theorem zok_151 : zokM 151 = true := by decide +kernel
set_option maxRecDepth 100000 in
theorem zok_152 : zokM 152 = true := by decide +kernel
set_option maxRecDepth 100000 in
theorem zok_153 : zokM 153 = true := by decide +kernel
set_option maxRecDepth 100000 in
theorem zok_154 : zokM 154 = true := by decide +kernel
set_option maxRecDepth 100000 in
theorem zok_155 : zokM 155 = true := by decide +kernel
set_option maxRecDepth 100000 in
theorem zok_156 : zokM 156 = true := by decide +kernel
set_option maxRecDepth 100000 in
theorem zok_157 : zokM 157 = true := by decide +kernel
set_option maxRecDepth 100000 in
theorem zok_158 : zokM 158 = true := by decide +kernel
set_option maxRecDepth 100000 in
theorem zok_159 : zokM 159 = true := by decide +kernel
set_option maxRecDepth 100000 in
theorem zok_160 : zokM 160 = true := by decide +kernel
set_option maxRecDepth 100000 in
theorem zok_161 : zokM 161 = true := by decide +kernel
set_option maxRecDepth 100000 in
theorem zok_162 : zokM 162 = true := by decide +kernel
set_option maxRecDepth 100000 in
theorem zok_163 : zokM 163 = true := by decide +kernel
