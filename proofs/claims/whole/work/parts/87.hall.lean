theorem zokp_of {k : Nat} {y : MethodName} {cc : ByteArray} {nL : Nat} {ret : Option FieldType} {fr lo : Nat} (hk : zMs[k]? = some (y, cc, nL, ret, fr, lo)) (h : zokM k = true) : zOKp k y cc nL ret fr lo := by
  unfold zokM at h
  rw [hk] at h
  simp only [Bool.and_eq_true, decide_eq_true_eq] at h
  obtain ⟨⟨⟨h1, h2⟩, h3⟩, h4⟩ := h
  refine ⟨h1, fun nd en he => ?_, of_decide_eq_true h4⟩
  have hlt : nd < (zT k).length := (List.getElem?_eq_some_iff.mp he).1
  have hlt2 : nd < (zHs.getD k []).length := by omega
  refine ⟨(zHs.getD k [])[nd], ?_⟩
  rw [List.all_eq_true] at h3
  refine h3 (en, (zHs.getD k [])[nd]) ?_
  rw [List.mem_iff_getElem?]
  exact ⟨nd, by rw [List.getElem?_zip_eq_some]; exact ⟨he, List.getElem?_eq_getElem hlt2⟩⟩
theorem zokc_of {i nd : Nat} {en : zE} {y : MethodName} {cc : ByteArray} {nL : Nat} {ret : Option FieldType} {fr lo : Nat} (hk : zMs[205]? = some (y, cc, nL, ret, fr, lo)) (h : zokC 205 i 50 = true) (h1 : i ≤ nd) (h2 : nd < i + 50) (hl : (zT 205).length = (zHs.getD 205 []).length) (he : (zT 205)[nd]? = some en) : ∃ h, zokE y cc nL ret fr lo (zT 205) en h = true := by
  unfold zokC at h
  rw [hk] at h
  dsimp only at h
  rw [List.all_eq_true] at h
  have hlt : nd < (zT 205).length := (List.getElem?_eq_some_iff.mp he).1
  have hlt2 : nd < (zHs.getD 205 []).length := by omega
  refine ⟨(zHs.getD 205 [])[nd], h (en, (zHs.getD 205 [])[nd]) ?_⟩
  rw [List.mem_iff_getElem?]
  refine ⟨nd - i, ?_⟩
  rw [List.getElem?_zip_eq_some]
  refine ⟨?_, ?_⟩
  · rw [List.getElem?_take_of_lt (by omega), List.getElem?_drop, show i + (nd - i) = nd by omega]
    exact he
  · rw [List.getElem?_take_of_lt (by omega), List.getElem?_drop, show i + (nd - i) = nd by omega]
    exact List.getElem?_eq_getElem hlt2
theorem zokb_0 (k : Nat) (h1 : 0 ≤ k) (h2 : k < 10) : zokM k = true := by
  rcases (show k = 0 ∨ k = 1 ∨ k = 2 ∨ k = 3 ∨ k = 4 ∨ k = 5 ∨ k = 6 ∨ k = 7 ∨ k = 8 ∨ k = 9 by omega) with rfl | rfl | rfl | rfl | rfl | rfl | rfl | rfl | rfl | rfl
  · exact zok_0
  · exact zok_1
  · exact zok_2
  · exact zok_3
  · exact zok_4
  · exact zok_5
  · exact zok_6
  · exact zok_7
  · exact zok_8
  · exact zok_9
theorem zokb_1 (k : Nat) (h1 : 10 ≤ k) (h2 : k < 20) : zokM k = true := by
  rcases (show k = 10 ∨ k = 11 ∨ k = 12 ∨ k = 13 ∨ k = 14 ∨ k = 15 ∨ k = 16 ∨ k = 17 ∨ k = 18 ∨ k = 19 by omega) with rfl | rfl | rfl | rfl | rfl | rfl | rfl | rfl | rfl | rfl
  · exact zok_10
  · exact zok_11
  · exact zok_12
  · exact zok_13
  · exact zok_14
  · exact zok_15
  · exact zok_16
  · exact zok_17
  · exact zok_18
  · exact zok_19
theorem zokb_2 (k : Nat) (h1 : 20 ≤ k) (h2 : k < 30) : zokM k = true := by
  rcases (show k = 20 ∨ k = 21 ∨ k = 22 ∨ k = 23 ∨ k = 24 ∨ k = 25 ∨ k = 26 ∨ k = 27 ∨ k = 28 ∨ k = 29 by omega) with rfl | rfl | rfl | rfl | rfl | rfl | rfl | rfl | rfl | rfl
  · exact zok_20
  · exact zok_21
  · exact zok_22
  · exact zok_23
  · exact zok_24
  · exact zok_25
  · exact zok_26
  · exact zok_27
  · exact zok_28
  · exact zok_29
theorem zokb_3 (k : Nat) (h1 : 30 ≤ k) (h2 : k < 40) : zokM k = true := by
  rcases (show k = 30 ∨ k = 31 ∨ k = 32 ∨ k = 33 ∨ k = 34 ∨ k = 35 ∨ k = 36 ∨ k = 37 ∨ k = 38 ∨ k = 39 by omega) with rfl | rfl | rfl | rfl | rfl | rfl | rfl | rfl | rfl | rfl
  · exact zok_30
  · exact zok_31
  · exact zok_32
  · exact zok_33
  · exact zok_34
  · exact zok_35
  · exact zok_36
  · exact zok_37
  · exact zok_38
  · exact zok_39
theorem zokb_4 (k : Nat) (h1 : 40 ≤ k) (h2 : k < 50) : zokM k = true := by
  rcases (show k = 40 ∨ k = 41 ∨ k = 42 ∨ k = 43 ∨ k = 44 ∨ k = 45 ∨ k = 46 ∨ k = 47 ∨ k = 48 ∨ k = 49 by omega) with rfl | rfl | rfl | rfl | rfl | rfl | rfl | rfl | rfl | rfl
  · exact zok_40
  · exact zok_41
  · exact zok_42
  · exact zok_43
  · exact zok_44
  · exact zok_45
  · exact zok_46
  · exact zok_47
  · exact zok_48
  · exact zok_49
theorem zokb_5 (k : Nat) (h1 : 50 ≤ k) (h2 : k < 60) : zokM k = true := by
  rcases (show k = 50 ∨ k = 51 ∨ k = 52 ∨ k = 53 ∨ k = 54 ∨ k = 55 ∨ k = 56 ∨ k = 57 ∨ k = 58 ∨ k = 59 by omega) with rfl | rfl | rfl | rfl | rfl | rfl | rfl | rfl | rfl | rfl
  · exact zok_50
  · exact zok_51
  · exact zok_52
  · exact zok_53
  · exact zok_54
  · exact zok_55
  · exact zok_56
  · exact zok_57
  · exact zok_58
  · exact zok_59
theorem zokb_6 (k : Nat) (h1 : 60 ≤ k) (h2 : k < 70) : zokM k = true := by
  rcases (show k = 60 ∨ k = 61 ∨ k = 62 ∨ k = 63 ∨ k = 64 ∨ k = 65 ∨ k = 66 ∨ k = 67 ∨ k = 68 ∨ k = 69 by omega) with rfl | rfl | rfl | rfl | rfl | rfl | rfl | rfl | rfl | rfl
  · exact zok_60
  · exact zok_61
  · exact zok_62
  · exact zok_63
  · exact zok_64
  · exact zok_65
  · exact zok_66
  · exact zok_67
  · exact zok_68
  · exact zok_69
theorem zokb_7 (k : Nat) (h1 : 70 ≤ k) (h2 : k < 80) : zokM k = true := by
  rcases (show k = 70 ∨ k = 71 ∨ k = 72 ∨ k = 73 ∨ k = 74 ∨ k = 75 ∨ k = 76 ∨ k = 77 ∨ k = 78 ∨ k = 79 by omega) with rfl | rfl | rfl | rfl | rfl | rfl | rfl | rfl | rfl | rfl
  · exact zok_70
  · exact zok_71
  · exact zok_72
  · exact zok_73
  · exact zok_74
  · exact zok_75
  · exact zok_76
  · exact zok_77
  · exact zok_78
  · exact zok_79
theorem zokb_8 (k : Nat) (h1 : 80 ≤ k) (h2 : k < 90) : zokM k = true := by
  rcases (show k = 80 ∨ k = 81 ∨ k = 82 ∨ k = 83 ∨ k = 84 ∨ k = 85 ∨ k = 86 ∨ k = 87 ∨ k = 88 ∨ k = 89 by omega) with rfl | rfl | rfl | rfl | rfl | rfl | rfl | rfl | rfl | rfl
  · exact zok_80
  · exact zok_81
  · exact zok_82
  · exact zok_83
  · exact zok_84
  · exact zok_85
  · exact zok_86
  · exact zok_87
  · exact zok_88
  · exact zok_89
theorem zokb_9 (k : Nat) (h1 : 90 ≤ k) (h2 : k < 100) : zokM k = true := by
  rcases (show k = 90 ∨ k = 91 ∨ k = 92 ∨ k = 93 ∨ k = 94 ∨ k = 95 ∨ k = 96 ∨ k = 97 ∨ k = 98 ∨ k = 99 by omega) with rfl | rfl | rfl | rfl | rfl | rfl | rfl | rfl | rfl | rfl
  · exact zok_90
  · exact zok_91
  · exact zok_92
  · exact zok_93
  · exact zok_94
  · exact zok_95
  · exact zok_96
  · exact zok_97
  · exact zok_98
  · exact zok_99
theorem zokb_10 (k : Nat) (h1 : 100 ≤ k) (h2 : k < 110) : zokM k = true := by
  rcases (show k = 100 ∨ k = 101 ∨ k = 102 ∨ k = 103 ∨ k = 104 ∨ k = 105 ∨ k = 106 ∨ k = 107 ∨ k = 108 ∨ k = 109 by omega) with rfl | rfl | rfl | rfl | rfl | rfl | rfl | rfl | rfl | rfl
  · exact zok_100
  · exact zok_101
  · exact zok_102
  · exact zok_103
  · exact zok_104
  · exact zok_105
  · exact zok_106
  · exact zok_107
  · exact zok_108
  · exact zok_109
theorem zokb_11 (k : Nat) (h1 : 110 ≤ k) (h2 : k < 120) : zokM k = true := by
  rcases (show k = 110 ∨ k = 111 ∨ k = 112 ∨ k = 113 ∨ k = 114 ∨ k = 115 ∨ k = 116 ∨ k = 117 ∨ k = 118 ∨ k = 119 by omega) with rfl | rfl | rfl | rfl | rfl | rfl | rfl | rfl | rfl | rfl
  · exact zok_110
  · exact zok_111
  · exact zok_112
  · exact zok_113
  · exact zok_114
  · exact zok_115
  · exact zok_116
  · exact zok_117
  · exact zok_118
  · exact zok_119
theorem zokb_12 (k : Nat) (h1 : 120 ≤ k) (h2 : k < 130) : zokM k = true := by
  rcases (show k = 120 ∨ k = 121 ∨ k = 122 ∨ k = 123 ∨ k = 124 ∨ k = 125 ∨ k = 126 ∨ k = 127 ∨ k = 128 ∨ k = 129 by omega) with rfl | rfl | rfl | rfl | rfl | rfl | rfl | rfl | rfl | rfl
  · exact zok_120
  · exact zok_121
  · exact zok_122
  · exact zok_123
  · exact zok_124
  · exact zok_125
  · exact zok_126
  · exact zok_127
  · exact zok_128
  · exact zok_129
theorem zokb_13 (k : Nat) (h1 : 130 ≤ k) (h2 : k < 140) : zokM k = true := by
  rcases (show k = 130 ∨ k = 131 ∨ k = 132 ∨ k = 133 ∨ k = 134 ∨ k = 135 ∨ k = 136 ∨ k = 137 ∨ k = 138 ∨ k = 139 by omega) with rfl | rfl | rfl | rfl | rfl | rfl | rfl | rfl | rfl | rfl
  · exact zok_130
  · exact zok_131
  · exact zok_132
  · exact zok_133
  · exact zok_134
  · exact zok_135
  · exact zok_136
  · exact zok_137
  · exact zok_138
  · exact zok_139
theorem zokb_14 (k : Nat) (h1 : 140 ≤ k) (h2 : k < 150) : zokM k = true := by
  rcases (show k = 140 ∨ k = 141 ∨ k = 142 ∨ k = 143 ∨ k = 144 ∨ k = 145 ∨ k = 146 ∨ k = 147 ∨ k = 148 ∨ k = 149 by omega) with rfl | rfl | rfl | rfl | rfl | rfl | rfl | rfl | rfl | rfl
  · exact zok_140
  · exact zok_141
  · exact zok_142
  · exact zok_143
  · exact zok_144
  · exact zok_145
  · exact zok_146
  · exact zok_147
  · exact zok_148
  · exact zok_149
theorem zokb_15 (k : Nat) (h1 : 150 ≤ k) (h2 : k < 160) : zokM k = true := by
  rcases (show k = 150 ∨ k = 151 ∨ k = 152 ∨ k = 153 ∨ k = 154 ∨ k = 155 ∨ k = 156 ∨ k = 157 ∨ k = 158 ∨ k = 159 by omega) with rfl | rfl | rfl | rfl | rfl | rfl | rfl | rfl | rfl | rfl
  · exact zok_150
  · exact zok_151
  · exact zok_152
  · exact zok_153
  · exact zok_154
  · exact zok_155
  · exact zok_156
  · exact zok_157
  · exact zok_158
  · exact zok_159
theorem zokb_16 (k : Nat) (h1 : 160 ≤ k) (h2 : k < 170) : zokM k = true := by
  rcases (show k = 160 ∨ k = 161 ∨ k = 162 ∨ k = 163 ∨ k = 164 ∨ k = 165 ∨ k = 166 ∨ k = 167 ∨ k = 168 ∨ k = 169 by omega) with rfl | rfl | rfl | rfl | rfl | rfl | rfl | rfl | rfl | rfl
  · exact zok_160
  · exact zok_161
  · exact zok_162
  · exact zok_163
  · exact zok_164
  · exact zok_165
  · exact zok_166
  · exact zok_167
  · exact zok_168
  · exact zok_169
theorem zokb_17 (k : Nat) (h1 : 170 ≤ k) (h2 : k < 180) : zokM k = true := by
  rcases (show k = 170 ∨ k = 171 ∨ k = 172 ∨ k = 173 ∨ k = 174 ∨ k = 175 ∨ k = 176 ∨ k = 177 ∨ k = 178 ∨ k = 179 by omega) with rfl | rfl | rfl | rfl | rfl | rfl | rfl | rfl | rfl | rfl
  · exact zok_170
  · exact zok_171
  · exact zok_172
  · exact zok_173
  · exact zok_174
  · exact zok_175
  · exact zok_176
  · exact zok_177
  · exact zok_178
  · exact zok_179
theorem zokb_18 (k : Nat) (h1 : 180 ≤ k) (h2 : k < 190) : zokM k = true := by
  rcases (show k = 180 ∨ k = 181 ∨ k = 182 ∨ k = 183 ∨ k = 184 ∨ k = 185 ∨ k = 186 ∨ k = 187 ∨ k = 188 ∨ k = 189 by omega) with rfl | rfl | rfl | rfl | rfl | rfl | rfl | rfl | rfl | rfl
  · exact zok_180
  · exact zok_181
  · exact zok_182
  · exact zok_183
  · exact zok_184
  · exact zok_185
  · exact zok_186
  · exact zok_187
  · exact zok_188
  · exact zok_189
theorem zokb_19 (k : Nat) (h1 : 190 ≤ k) (h2 : k < 200) : zokM k = true := by
  rcases (show k = 190 ∨ k = 191 ∨ k = 192 ∨ k = 193 ∨ k = 194 ∨ k = 195 ∨ k = 196 ∨ k = 197 ∨ k = 198 ∨ k = 199 by omega) with rfl | rfl | rfl | rfl | rfl | rfl | rfl | rfl | rfl | rfl
  · exact zok_190
  · exact zok_191
  · exact zok_192
  · exact zok_193
  · exact zok_194
  · exact zok_195
  · exact zok_196
  · exact zok_197
  · exact zok_198
  · exact zok_199
theorem zokb_20 (k : Nat) (h1 : 200 ≤ k) (h2 : k < 205) : zokM k = true := by
  rcases (show k = 200 ∨ k = 201 ∨ k = 202 ∨ k = 203 ∨ k = 204 by omega) with rfl | rfl | rfl | rfl | rfl
  · exact zok_200
  · exact zok_201
  · exact zok_202
  · exact zok_203
  · exact zok_204
theorem zoka (k : Nat) (h : k < 205) : zokM k = true := by
  by_cases c0 : k < 10
  · exact zokb_0 k (by omega) c0
  by_cases c1 : k < 20
  · exact zokb_1 k (by omega) c1
  by_cases c2 : k < 30
  · exact zokb_2 k (by omega) c2
  by_cases c3 : k < 40
  · exact zokb_3 k (by omega) c3
  by_cases c4 : k < 50
  · exact zokb_4 k (by omega) c4
  by_cases c5 : k < 60
  · exact zokb_5 k (by omega) c5
  by_cases c6 : k < 70
  · exact zokb_6 k (by omega) c6
  by_cases c7 : k < 80
  · exact zokb_7 k (by omega) c7
  by_cases c8 : k < 90
  · exact zokb_8 k (by omega) c8
  by_cases c9 : k < 100
  · exact zokb_9 k (by omega) c9
  by_cases c10 : k < 110
  · exact zokb_10 k (by omega) c10
  by_cases c11 : k < 120
  · exact zokb_11 k (by omega) c11
  by_cases c12 : k < 130
  · exact zokb_12 k (by omega) c12
  by_cases c13 : k < 140
  · exact zokb_13 k (by omega) c13
  by_cases c14 : k < 150
  · exact zokb_14 k (by omega) c14
  by_cases c15 : k < 160
  · exact zokb_15 k (by omega) c15
  by_cases c16 : k < 170
  · exact zokb_16 k (by omega) c16
  by_cases c17 : k < 180
  · exact zokb_17 k (by omega) c17
  by_cases c18 : k < 190
  · exact zokb_18 k (by omega) c18
  by_cases c19 : k < 200
  · exact zokb_19 k (by omega) c19
  exact zokb_20 k (by omega) (by omega)
theorem zMs_n : zMs.length = 206 := by decide +kernel
theorem zoklaw {y : MethodName} {cc : ByteArray} {nL : Nat} {ret : Option FieldType} {fr lo : Nat} (hk : zMs[205]? = some (y, cc, nL, ret, fr, lo)) : zOKp 205 y cc nL ret fr lo := by
  obtain ⟨n1, ⟨n2, n3⟩, n4⟩ := zokl_n
  have hy : y.cls = "BankStoreLaw" := by
    have e := zlaw_at
    rw [hk] at e
    injection e with e
    injection e with e _
    rw [e]
  refine ⟨by rw [hy]; exact n1, fun nd en he => ?_, of_decide_eq_true n4⟩
  have hlt : nd < (zT 205).length := (List.getElem?_eq_some_iff.mp he).1
  by_cases c0 : nd < 50
  · exact zokc_of hk zokl_0 (by omega) (by omega) n3 he
  by_cases c1 : nd < 100
  · exact zokc_of hk zokl_1 (by omega) (by omega) n3 he
  by_cases c2 : nd < 150
  · exact zokc_of hk zokl_2 (by omega) (by omega) n3 he
  by_cases c3 : nd < 200
  · exact zokc_of hk zokl_3 (by omega) (by omega) n3 he
  by_cases c4 : nd < 250
  · exact zokc_of hk zokl_4 (by omega) (by omega) n3 he
  by_cases c5 : nd < 300
  · exact zokc_of hk zokl_5 (by omega) (by omega) n3 he
  by_cases c6 : nd < 350
  · exact zokc_of hk zokl_6 (by omega) (by omega) n3 he
  by_cases c7 : nd < 400
  · exact zokc_of hk zokl_7 (by omega) (by omega) n3 he
  by_cases c8 : nd < 450
  · exact zokc_of hk zokl_8 (by omega) (by omega) n3 he
  by_cases c9 : nd < 500
  · exact zokc_of hk zokl_9 (by omega) (by omega) n3 he
  by_cases c10 : nd < 550
  · exact zokc_of hk zokl_10 (by omega) (by omega) n3 he
  by_cases c11 : nd < 600
  · exact zokc_of hk zokl_11 (by omega) (by omega) n3 he
  by_cases c12 : nd < 650
  · exact zokc_of hk zokl_12 (by omega) (by omega) n3 he
  by_cases c13 : nd < 700
  · exact zokc_of hk zokl_13 (by omega) (by omega) n3 he
  by_cases c14 : nd < 750
  · exact zokc_of hk zokl_14 (by omega) (by omega) n3 he
  by_cases c15 : nd < 800
  · exact zokc_of hk zokl_15 (by omega) (by omega) n3 he
  by_cases c16 : nd < 850
  · exact zokc_of hk zokl_16 (by omega) (by omega) n3 he
  by_cases c17 : nd < 900
  · exact zokc_of hk zokl_17 (by omega) (by omega) n3 he
  by_cases c18 : nd < 950
  · exact zokc_of hk zokl_18 (by omega) (by omega) n3 he
  by_cases c19 : nd < 1000
  · exact zokc_of hk zokl_19 (by omega) (by omega) n3 he
  exact zokc_of hk zokl_20 (by omega) (by omega) n3 he
theorem zhall : ∀ k y cc nL ret fr lo, zMs[k]? = some (y, cc, nL, ret, fr, lo) → zOKp k y cc nL ret fr lo := by
  intro k y cc nL ret fr lo hk
  have hlt : k < zMs.length := (List.getElem?_eq_some_iff.mp hk).1
  rw [zMs_n] at hlt
  by_cases c : k < 205
  · exact zokp_of hk (zoka k c)
  · have e : k = 205 := by omega
    subst e
    exact zoklaw hk
