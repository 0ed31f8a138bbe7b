set_option maxRecDepth 100000 in
theorem zok_164 : zokM 164 = true := by decide +kernel
set_option maxRecDepth 100000 in
theorem zok_165 : zokM 165 = true := by decide +kernel
set_option maxRecDepth 100000 in
theorem zok_166 : zokM 166 = true := by decide +kernel
set_option maxRecDepth 100000 in
theorem zok_167 : zokM 167 = true := by decide +kernel
set_option maxRecDepth 100000 in
theorem zok_168 : zokM 168 = true := by decide +kernel
set_option maxRecDepth 100000 in
theorem zok_169 : zokM 169 = true := by decide +kernel
set_option maxRecDepth 100000 in
theorem zok_170 : zokM 170 = true := by decide +kernel
set_option maxRecDepth 100000 in
theorem zok_171 : zokM 171 = true := by decide +kernel
set_option maxRecDepth 100000 in
theorem zok_172 : zokM 172 = true := by decide +kernel
set_option maxRecDepth 100000 in
theorem zok_173 : zokM 173 = true := by decide +kernel
set_option maxRecDepth 100000 in
theorem zok_174 : zokM 174 = true := by decide +kernel
set_option maxRecDepth 100000 in
theorem zok_175 : zokM 175 = true := by decide +kernel
set_option maxRecDepth 100000 in
theorem zok_176 : zokM 176 = true := by decide +kernel
set_option maxRecDepth 100000 in
theorem zok_177 : zokM 177 = true := by decide +kernel
set_option maxRecDepth 100000 in
theorem zok_178 : zokM 178 = true := by decide +kernel
set_option maxRecDepth 100000 in
theorem zok_179 : zokM 179 = true := by decide +kernel
set_option maxRecDepth 100000 in
theorem zok_180 : zokM 180 = true := by decide +kernel
set_option maxRecDepth 100000 in
theorem zok_181 : zokM 181 = true := by decide +kernel
set_option maxRecDepth 100000 in
theorem zok_182 : zokM 182 = true := by decide +kernel
set_option maxRecDepth 100000 in
theorem zok_183 : zokM 183 = true := by decide +kernel
set_option maxRecDepth 100000 in
theorem zok_184 : zokM 184 = true := by decide +kernel
set_option maxRecDepth 100000 in
theorem zok_185 : zokM 185 = true := by decide +kernel
set_option maxRecDepth 100000 in
theorem zok_186 : zokM 186 = true := by decide +kernel
set_option maxRecDepth 100000 in
theorem zok_187 : zokM 187 = true := by decide +kernel
set_option maxRecDepth 100000 in
theorem zok_188 : zokM 188 = true := by decide +kernel
set_option maxRecDepth 100000 in
theorem zok_189 : zokM 189 = true := by decide +kernel
set_option maxRecDepth 100000 in
theorem zok_190 : zokM 190 = true := by decide +kernel
set_option maxRecDepth 100000 in
theorem zok_191 : zokM 191 = true := by decide +kernel
set_option maxRecDepth 100000 in
theorem zok_192 : zokM 192 = true := by decide +kernel
set_option maxRecDepth 100000 in
theorem zok_193 : zokM 193 = true := by decide +kernel
set_option maxRecDepth 100000 in
theorem zok_194 : zokM 194 = true := by decide +kernel
set_option maxRecDepth 100000 in
theorem zok_195 : zokM 195 = true := by decide +kernel
set_option maxRecDepth 100000 in
theorem zok_196 : zokM 196 = true := by decide +kernel
set_option maxRecDepth 100000 in
theorem zok_197 : zokM 197 = true := by decide +kernel
set_option maxRecDepth 100000 in
theorem zok_198 : zokM 198 = true := by decide +kernel
set_option maxRecDepth 100000 in
theorem zok_199 : zokM 199 = true := by decide +kernel
set_option maxRecDepth 100000 in
theorem zok_200 : zokM 200 = true := by decide +kernel
set_option maxRecDepth 100000 in
theorem zok_201 : zokM 201 = true := by decide +kernel
set_option maxRecDepth 100000 in
theorem zok_202 : zokM 202 = true := by decide +kernel
set_option maxRecDepth 100000 in
theorem zok_203 : zokM 203 = true := by decide +kernel
set_option maxRecDepth 100000 in
theorem zok_204 : zokM 204 = true := by decide +kernel
