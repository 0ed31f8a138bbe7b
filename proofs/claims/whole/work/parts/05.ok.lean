set_option maxRecDepth 100000 in
theorem zok_0 : zokM 0 = true := by decide +kernel
set_option maxRecDepth 100000 in
theorem zok_1 : zokM 1 = true := by decide +kernel
set_option maxRecDepth 100000 in
theorem zok_2 : zokM 2 = true := by decide +kernel
set_option maxRecDepth 100000 in
theorem zok_3 : zokM 3 = true := by decide +kernel
set_option maxRecDepth 100000 in
theorem zok_4 : zokM 4 = true := by decide +kernel
set_option maxRecDepth 100000 in
theorem zok_5 : zokM 5 = true := by decide +kernel
set_option maxRecDepth 100000 in
theorem zok_6 : zokM 6 = true := by decide +kernel
set_option maxRecDepth 100000 in
theorem zok_7 : zokM 7 = true := by decide +kernel
set_option maxRecDepth 100000 in
theorem zok_8 : zokM 8 = true := by decide +kernel
set_option maxRecDepth 100000 in
theorem zok_9 : zokM 9 = true := by decide +kernel
set_option maxRecDepth 100000 in
theorem zok_10 : zokM 10 = true := by decide +kernel
set_option maxRecDepth 100000 in
theorem zok_11 : zokM 11 = true := by decide +kernel
set_option maxRecDepth 100000 in
theorem zok_12 : zokM 12 = true := by decide +kernel
set_option maxRecDepth 100000 in
theorem zok_13 : zokM 13 = true := by decide +kernel
set_option maxRecDepth 100000 in
theorem zok_14 : zokM 14 = true := by decide +kernel
set_option maxRecDepth 100000 in
theorem zok_15 : zokM 15 = true := by decide +kernel
set_option maxRecDepth 100000 in
theorem zok_16 : zokM 16 = true := by decide +kernel
set_option maxRecDepth 100000 in
theorem zok_17 : zokM 17 = true := by decide +kernel
set_option maxRecDepth 100000 in
theorem zok_18 : zokM 18 = true := by decide +kernel
set_option maxRecDepth 100000 in
theorem zok_19 : zokM 19 = true := by decide +kernel
set_option maxRecDepth 100000 in
theorem zok_20 : zokM 20 = true := by decide +kernel
set_option maxRecDepth 100000 in
theorem zok_21 : zokM 21 = true := by decide +kernel
set_option maxRecDepth 100000 in
theorem zok_22 : zokM 22 = true := by decide +kernel
set_option maxRecDepth 100000 in
theorem zok_23 : zokM 23 = true := by decide +kernel
set_option maxRecDepth 100000 in
theorem zok_24 : zokM 24 = true := by decide +kernel
set_option maxRecDepth 100000 in
theorem zok_25 : zokM 25 = true := by decide +kernel
set_option maxRecDepth 100000 in
theorem zok_26 : zokM 26 = true := by decide +kernel
set_option maxRecDepth 100000 in
theorem zok_27 : zokM 27 = true := by decide +kernel
set_option maxRecDepth 100000 in
theorem zok_28 : zokM 28 = true := by decide +kernel
set_option maxRecDepth 100000 in
theorem zok_29 : zokM 29 = true := by decide +kernel
set_option maxRecDepth 100000 in
theorem zok_30 : zokM 30 = true := by decide +kernel
set_option maxRecDepth 100000 in
theorem zok_31 : zokM 31 = true := by decide +kernel
set_option maxRecDepth 100000 in
theorem zok_32 : zokM 32 = true := by decide +kernel
set_option maxRecDepth 100000 in
theorem zok_33 : zokM 33 = true := by decide +kernel
set_option maxRecDepth 100000 in
theorem zok_34 : zokM 34 = true := by decide +kernel
set_option maxRecDepth 100000 in
theorem zok_35 : zokM 35 = true := by decide +kernel
set_option maxRecDepth 100000 in
theorem zok_36 : zokM 36 = true := by decide +kernel
set_option maxRecDepth 100000 in
theorem zok_37 : zokM 37 = true := by decide +kernel
set_option maxRecDepth 100000 in
theorem zok_38 : zokM 38 = true := by decide +kernel
set_option maxRecDepth 100000 in
theorem zok_39 : zokM 39 = true := by decide +kernel
set_option maxRecDepth 100000 in
theorem zok_40 : zokM 40 = true := by decide +kernel
set_option maxRecDepth 100000 in
theorem zok_41 : zokM 41 = true := by decide +kernel
set_option maxRecDepth 100000 in
theorem zok_42 : zokM 42 = true := by decide +kernel
set_option maxRecDepth 100000 in
theorem zok_43 : zokM 43 = true := by decide +kernel
set_option maxRecDepth 100000 in
theorem zok_44 : zokM 44 = true := by decide +kernel
set_option maxRecDepth 100000 in
theorem zok_45 : zokM 45 = true := by decide +kernel
set_option maxRecDepth 100000 in
theorem zok_46 : zokM 46 = true := by decide +kernel
set_option maxRecDepth 100000 in
theorem zok_47 : zokM 47 = true := by decide +kernel
set_option maxRecDepth 100000 in
theorem zok_48 : zokM 48 = true := by decide +kernel
set_option maxRecDepth 100000 in
theorem zok_49 : zokM 49 = true := by decide +kernel
set_option maxRecDepth 100000 in
theorem zok_50 : zokM 50 = true := by decide +kernel
set_option maxRecDepth 100000 in
theorem zok_51 : zokM 51 = true := by decide +kernel
set_option maxRecDepth 100000 in
theorem zok_52 : zokM 52 = true := by decide +kernel
set_option maxRecDepth 100000 in
theorem zok_53 : zokM 53 = true := by decide +kernel
set_option maxRecDepth 100000 in
theorem zok_54 : zokM 54 = true := by decide +kernel
set_option maxRecDepth 100000 in
theorem zok_55 : zokM 55 = true := by decide +kernel
set_option maxRecDepth 100000 in
theorem zok_56 : zokM 56 = true := by decide +kernel
set_option maxRecDepth 100000 in
theorem zok_57 : zokM 57 = true := by decide +kernel
set_option maxRecDepth 100000 in
theorem zok_58 : zokM 58 = true := by decide +kernel
set_option maxRecDepth 100000 in
theorem zok_59 : zokM 59 = true := by decide +kernel
set_option maxRecDepth 100000 in
theorem zok_60 : zokM 60 = true := by decide +kernel
set_option maxRecDepth 100000 in
theorem zok_61 : zokM 61 = true := by decide +kernel
set_option maxRecDepth 100000 in
theorem zok_62 : zokM 62 = true := by decide +kernel
set_option maxRecDepth 100000 in
theorem zok_63 : zokM 63 = true := by decide +kernel
set_option maxRecDepth 100000 in
theorem zok_64 : zokM 64 = true := by decide +kernel
set_option maxRecDepth 100000 in
theorem zok_65 : zokM 65 = true := by decide +kernel
set_option maxRecDepth 100000 in
theorem zok_66 : zokM 66 = true := by decide +kernel
set_option maxRecDepth 100000 in
theorem zok_67 : zokM 67 = true := by decide +kernel
set_option maxRecDepth 100000 in
theorem zok_68 : zokM 68 = true := by decide +kernel
set_option maxRecDepth 100000 in
theorem zok_69 : zokM 69 = true := by decide +kernel
set_option maxRecDepth 100000 in
theorem zok_70 : zokM 70 = true := by decide +kernel
set_option maxRecDepth 100000 in
theorem zok_71 : zokM 71 = true := by decide +kernel
set_option maxRecDepth 100000 in
theorem zok_72 : zokM 72 = true := by decide +kernel
set_option maxRecDepth 100000 in
theorem zok_73 : zokM 73 = true := by decide +kernel
set_option maxRecDepth 100000 in
theorem zok_74 : zokM 74 = true := by decide +kernel
set_option maxRecDepth 100000 in
theorem zok_75 : zokM 75 = true := by decide +kernel
set_option maxRecDepth 100000 in
theorem zok_76 : zokM 76 = true := by decide +kernel
set_option maxRecDepth 100000 in
theorem zok_77 : zokM 77 = true := by decide +kernel
set_option maxRecDepth 100000 in
theorem zok_78 : zokM 78 = true := by decide +kernel
set_option maxRecDepth 100000 in
theorem zok_79 : zokM 79 = true := by decide +kernel
set_option maxRecDepth 100000 in
theorem zok_80 : zokM 80 = true := by decide +kernel
set_option maxRecDepth 100000 in
theorem zok_81 : zokM 81 = true := by decide +kernel
set_option maxRecDepth 100000 in
theorem zok_82 : zokM 82 = true := by decide +kernel
set_option maxRecDepth 100000 in
theorem zok_83 : zokM 83 = true := by decide +kernel
set_option maxRecDepth 100000 in
theorem zok_84 : zokM 84 = true := by decide +kernel
set_option maxRecDepth 100000 in
theorem zok_85 : zokM 85 = true := by decide +kernel
set_option maxRecDepth 100000 in
theorem zok_86 : zokM 86 = true := by decide +kernel
set_option maxRecDepth 100000 in
theorem zok_87 : zokM 87 = true := by decide +kernel
set_option maxRecDepth 100000 in
theorem zok_88 : zokM 88 = true := by decide +kernel
set_option maxRecDepth 100000 in
theorem zok_89 : zokM 89 = true := by decide +kernel
set_option maxRecDepth 100000 in
theorem zok_90 : zokM 90 = true := by decide +kernel
set_option maxRecDepth 100000 in
theorem zok_91 : zokM 91 = true := by decide +kernel
set_option maxRecDepth 100000 in
theorem zok_92 : zokM 92 = true := by decide +kernel
set_option maxRecDepth 100000 in
theorem zok_93 : zokM 93 = true := by decide +kernel
set_option maxRecDepth 100000 in
theorem zok_94 : zokM 94 = true := by decide +kernel
set_option maxRecDepth 100000 in
theorem zok_95 : zokM 95 = true := by decide +kernel
set_option maxRecDepth 100000 in
theorem zok_96 : zokM 96 = true := by decide +kernel
set_option maxRecDepth 100000 in
theorem zok_97 : zokM 97 = true := by decide +kernel
set_option maxRecDepth 100000 in
theorem zok_98 : zokM 98 = true := by decide +kernel
set_option maxRecDepth 100000 in
theorem zok_99 : zokM 99 = true := by decide +kernel
set_option maxRecDepth 100000 in
theorem zok_100 : zokM 100 = true := by decide +kernel
set_option maxRecDepth 100000 in
theorem zok_101 : zokM 101 = true := by decide +kernel
set_option maxRecDepth 100000 in
theorem zok_102 : zokM 102 = true := by decide +kernel
set_option maxRecDepth 100000 in
theorem zok_103 : zokM 103 = true := by decide +kernel
set_option maxRecDepth 100000 in
theorem zok_104 : zokM 104 = true := by decide +kernel
set_option maxRecDepth 100000 in
theorem zok_105 : zokM 105 = true := by decide +kernel
set_option maxRecDepth 100000 in
theorem zok_106 : zokM 106 = true := by decide +kernel
set_option maxRecDepth 100000 in
theorem zok_107 : zokM 107 = true := by decide +kernel
set_option maxRecDepth 100000 in
theorem zok_108 : zokM 108 = true := by decide +kernel
set_option maxRecDepth 100000 in
theorem zok_109 : zokM 109 = true := by decide +kernel
set_option maxRecDepth 100000 in
theorem zok_110 : zokM 110 = true := by decide +kernel
set_option maxRecDepth 100000 in
theorem zok_111 : zokM 111 = true := by decide +kernel
set_option maxRecDepth 100000 in
theorem zok_112 : zokM 112 = true := by decide +kernel
set_option maxRecDepth 100000 in
theorem zok_113 : zokM 113 = true := by decide +kernel
set_option maxRecDepth 100000 in
theorem zok_114 : zokM 114 = true := by decide +kernel
set_option maxRecDepth 100000 in
theorem zok_115 : zokM 115 = true := by decide +kernel
set_option maxRecDepth 100000 in
theorem zok_116 : zokM 116 = true := by decide +kernel
set_option maxRecDepth 100000 in
theorem zok_117 : zokM 117 = true := by decide +kernel
set_option maxRecDepth 100000 in
theorem zok_118 : zokM 118 = true := by decide +kernel
set_option maxRecDepth 100000 in
theorem zok_119 : zokM 119 = true := by decide +kernel
set_option maxRecDepth 100000 in
theorem zok_120 : zokM 120 = true := by decide +kernel
set_option maxRecDepth 100000 in
theorem zok_121 : zokM 121 = true := by decide +kernel
set_option maxRecDepth 100000 in
theorem zok_122 : zokM 122 = true := by decide +kernel
set_option maxRecDepth 100000 in
theorem zok_123 : zokM 123 = true := by decide +kernel
set_option maxRecDepth 100000 in
theorem zok_124 : zokM 124 = true := by decide +kernel
set_option maxRecDepth 100000 in
theorem zok_125 : zokM 125 = true := by decide +kernel
set_option maxRecDepth 100000 in
theorem zok_126 : zokM 126 = true := by decide +kernel
set_option maxRecDepth 100000 in
theorem zok_127 : zokM 127 = true := by decide +kernel
set_option maxRecDepth 100000 in
theorem zok_128 : zokM 128 = true := by decide +kernel
set_option maxRecDepth 100000 in
theorem zok_129 : zokM 129 = true := by decide +kernel
set_option maxRecDepth 100000 in
theorem zok_130 : zokM 130 = true := by decide +kernel
set_option maxRecDepth 100000 in
theorem zok_131 : zokM 131 = true := by decide +kernel
set_option maxRecDepth 100000 in
theorem zok_132 : zokM 132 = true := by decide +kernel
set_option maxRecDepth 100000 in
theorem zok_133 : zokM 133 = true := by decide +kernel
set_option maxRecDepth 100000 in
theorem zok_134 : zokM 134 = true := by decide +kernel
set_option maxRecDepth 100000 in
theorem zok_135 : zokM 135 = true := by decide +kernel
set_option maxRecDepth 100000 in
theorem zok_136 : zokM 136 = true := by decide +kernel
set_option maxRecDepth 100000 in
theorem zok_137 : zokM 137 = true := by decide +kernel
set_option maxRecDepth 100000 in
theorem zok_138 : zokM 138 = true := by decide +kernel
set_option maxRecDepth 100000 in
theorem zok_139 : zokM 139 = true := by decide +kernel
set_option maxRecDepth 100000 in
theorem zok_140 : zokM 140 = true := by decide +kernel
set_option maxRecDepth 100000 in
theorem zok_141 : zokM 141 = true := by decide +kernel
set_option maxRecDepth 100000 in
theorem zok_142 : zokM 142 = true := by decide +kernel
set_option maxRecDepth 100000 in
theorem zok_143 : zokM 143 = true := by decide +kernel
set_option maxRecDepth 100000 in
theorem zok_144 : zokM 144 = true := by decide +kernel
set_option maxRecDepth 100000 in
theorem zok_145 : zokM 145 = true := by decide +kernel
set_option maxRecDepth 100000 in
theorem zok_146 : zokM 146 = true := by decide +kernel
set_option maxRecDepth 100000 in
theorem zok_147 : zokM 147 = true := by decide +kernel
set_option maxRecDepth 100000 in
theorem zok_148 : zokM 148 = true := by decide +kernel
set_option maxRecDepth 100000 in
theorem zok_149 : zokM 149 = true := by decide +kernel
set_option maxRecDepth 100000 in
theorem zok_150 : zokM 150 = true := by decide +kernel
set_option maxRecDepth 100000 in
theorem zok_151 : zokM 151 = true := by decide +kernel
set_option maxRecDepth 100000 in
theorem zok_152 : zokM 152 = true := by decide +kernel
set_option maxRecDepth 100000 in
theorem zok_153 : zokM 153 = true := by decide +kernel
set_option maxRecDepth 100000 in
theorem zok_154 : zokM 154 = true := by decide +kernel
set_option maxRecDepth 100000 in
theorem zok_155 : zokM 155 = true := by decide +kernel
set_option maxRecDepth 100000 in
theorem zok_156 : zokM 156 = true := by decide +kernel
set_option maxRecDepth 100000 in
theorem zok_157 : zokM 157 = true := by decide +kernel
set_option maxRecDepth 100000 in
theorem zok_158 : zokM 158 = true := by decide +kernel
set_option maxRecDepth 100000 in
theorem zok_159 : zokM 159 = true := by decide +kernel
set_option maxRecDepth 100000 in
theorem zok_160 : zokM 160 = true := by decide +kernel
set_option maxRecDepth 100000 in
theorem zok_161 : zokM 161 = true := by decide +kernel
set_option maxRecDepth 100000 in
theorem zok_162 : zokM 162 = true := by decide +kernel
set_option maxRecDepth 100000 in
theorem zok_163 : zokM 163 = true := by decide +kernel
set_option maxRecDepth 100000 in
theorem zok_164 : zokM 164 = true := by decide +kernel
set_option maxRecDepth 100000 in
theorem zok_165 : zokM 165 = true := by decide +kernel
set_option maxRecDepth 100000 in
theorem zok_166 : zokM 166 = true := by decide +kernel
set_option maxRecDepth 100000 in
theorem zok_167 : zokM 167 = true := by decide +kernel
set_option maxRecDepth 100000 in
theorem zok_168 : zokM 168 = true := by decide +kernel
set_option maxRecDepth 100000 in
theorem zok_169 : zokM 169 = true := by decide +kernel
set_option maxRecDepth 100000 in
theorem zok_170 : zokM 170 = true := by decide +kernel
set_option maxRecDepth 100000 in
theorem zok_171 : zokM 171 = true := by decide +kernel
set_option maxRecDepth 100000 in
theorem zok_172 : zokM 172 = true := by decide +kernel
set_option maxRecDepth 100000 in
theorem zok_173 : zokM 173 = true := by decide +kernel
set_option maxRecDepth 100000 in
theorem zok_174 : zokM 174 = true := by decide +kernel
set_option maxRecDepth 100000 in
theorem zok_175 : zokM 175 = true := by decide +kernel
set_option maxRecDepth 100000 in
theorem zok_176 : zokM 176 = true := by decide +kernel
set_option maxRecDepth 100000 in
theorem zok_177 : zokM 177 = true := by decide +kernel
set_option maxRecDepth 100000 in
theorem zok_178 : zokM 178 = true := by decide +kernel
set_option maxRecDepth 100000 in
theorem zok_179 : zokM 179 = true := by decide +kernel
set_option maxRecDepth 100000 in
theorem zok_180 : zokM 180 = true := by decide +kernel
set_option maxRecDepth 100000 in
theorem zok_181 : zokM 181 = true := by decide +kernel
set_option maxRecDepth 100000 in
theorem zok_182 : zokM 182 = true := by decide +kernel
set_option maxRecDepth 100000 in
theorem zok_183 : zokM 183 = true := by decide +kernel
set_option maxRecDepth 100000 in
theorem zok_184 : zokM 184 = true := by decide +kernel
set_option maxRecDepth 100000 in
theorem zok_185 : zokM 185 = true := by decide +kernel
set_option maxRecDepth 100000 in
theorem zok_186 : zokM 186 = true := by decide +kernel
set_option maxRecDepth 100000 in
theorem zok_187 : zokM 187 = true := by decide +kernel
set_option maxRecDepth 100000 in
theorem zok_188 : zokM 188 = true := by decide +kernel
set_option maxRecDepth 100000 in
theorem zok_189 : zokM 189 = true := by decide +kernel
set_option maxRecDepth 100000 in
theorem zok_190 : zokM 190 = true := by decide +kernel
set_option maxRecDepth 100000 in
theorem zok_191 : zokM 191 = true := by decide +kernel
set_option maxRecDepth 100000 in
theorem zok_192 : zokM 192 = true := by decide +kernel
set_option maxRecDepth 100000 in
theorem zok_193 : zokM 193 = true := by decide +kernel
set_option maxRecDepth 100000 in
theorem zok_194 : zokM 194 = true := by decide +kernel
set_option maxRecDepth 100000 in
theorem zok_195 : zokM 195 = true := by decide +kernel
set_option maxRecDepth 100000 in
theorem zok_196 : zokM 196 = true := by decide +kernel
set_option maxRecDepth 100000 in
theorem zok_197 : zokM 197 = true := by decide +kernel
set_option maxRecDepth 100000 in
theorem zok_198 : zokM 198 = true := by decide +kernel
set_option maxRecDepth 100000 in
theorem zok_199 : zokM 199 = true := by decide +kernel
set_option maxRecDepth 100000 in
theorem zok_200 : zokM 200 = true := by decide +kernel
set_option maxRecDepth 100000 in
theorem zok_201 : zokM 201 = true := by decide +kernel
set_option maxRecDepth 100000 in
theorem zok_202 : zokM 202 = true := by decide +kernel
set_option maxRecDepth 100000 in
theorem zok_203 : zokM 203 = true := by decide +kernel
set_option maxRecDepth 100000 in
theorem zok_204 : zokM 204 = true := by decide +kernel
