/-! ===== every row, every method ===== -/
def mAll (y : Nat) : Prop := ∀ pc e, mF y pc = some e → mOkE y pc e = true
theorem mJ {y n : Nat} (h : mOkR y 0 n = true) (hb : ∀ p, n ≤ p → mF y p = none) : mAll y := by
  intro pc e he
  by_cases hp : pc < n
  · unfold mOkR at h
    rw [List.all_eq_true] at h
    have h2 := h pc (List.mem_range.mpr hp)
    simp only [Nat.zero_add, he] at h2
    exact h2
  · rw [hb pc (by omega)] at he
    cases he
theorem mJ_0 : mAll 0 := by
  refine wd_all (nw := 51) (N := 3201) (by decide) (by decide +kernel) mB_0 (fun j hj => ?_)
  match j, hj with
  | 0, _ => exact ⟨512, mOk_0_0⟩
  | 1, _ => exact ⟨80, mOk_0_1⟩
  | 2, _ => exact ⟨80, mOk_0_2⟩
  | 3, _ => exact ⟨80, mOk_0_3⟩
  | 4, _ => exact ⟨80, mOk_0_4⟩
  | 5, _ => exact ⟨80, mOk_0_5⟩
  | 6, _ => exact ⟨80, mOk_0_6⟩
  | 7, _ => exact ⟨80, mOk_0_7⟩
  | 8, _ => exact ⟨80, mOk_0_8⟩
  | 9, _ => exact ⟨80, mOk_0_9⟩
  | 10, _ => exact ⟨80, mOk_0_10⟩
  | 11, _ => exact ⟨80, mOk_0_11⟩
  | 12, _ => exact ⟨80, mOk_0_12⟩
  | 13, _ => exact ⟨80, mOk_0_13⟩
  | 14, _ => exact ⟨80, mOk_0_14⟩
  | 15, _ => exact ⟨80, mOk_0_15⟩
  | 16, _ => exact ⟨80, mOk_0_16⟩
  | 17, _ => exact ⟨80, mOk_0_17⟩
  | 18, _ => exact ⟨80, mOk_0_18⟩
  | 19, _ => exact ⟨80, mOk_0_19⟩
  | 20, _ => exact ⟨80, mOk_0_20⟩
  | 21, _ => exact ⟨80, mOk_0_21⟩
  | 22, _ => exact ⟨80, mOk_0_22⟩
  | 23, _ => exact ⟨80, mOk_0_23⟩
  | 24, _ => exact ⟨80, mOk_0_24⟩
  | 25, _ => exact ⟨80, mOk_0_25⟩
  | 26, _ => exact ⟨80, mOk_0_26⟩
  | 27, _ => exact ⟨80, mOk_0_27⟩
  | 28, _ => exact ⟨80, mOk_0_28⟩
  | 29, _ => exact ⟨80, mOk_0_29⟩
  | 30, _ => exact ⟨80, mOk_0_30⟩
  | 31, _ => exact ⟨80, mOk_0_31⟩
  | 32, _ => exact ⟨80, mOk_0_32⟩
  | 33, _ => exact ⟨80, mOk_0_33⟩
  | 34, _ => exact ⟨80, mOk_0_34⟩
  | 35, _ => exact ⟨80, mOk_0_35⟩
  | 36, _ => exact ⟨80, mOk_0_36⟩
  | 37, _ => exact ⟨80, mOk_0_37⟩
  | 38, _ => exact ⟨80, mOk_0_38⟩
  | 39, _ => exact ⟨80, mOk_0_39⟩
  | 40, _ => exact ⟨80, mOk_0_40⟩
  | 41, _ => exact ⟨80, mOk_0_41⟩
  | 42, _ => exact ⟨80, mOk_0_42⟩
  | 43, _ => exact ⟨80, mOk_0_43⟩
  | 44, _ => exact ⟨80, mOk_0_44⟩
  | 45, _ => exact ⟨80, mOk_0_45⟩
  | 46, _ => exact ⟨80, mOk_0_46⟩
  | 47, _ => exact ⟨80, mOk_0_47⟩
  | 48, _ => exact ⟨80, mOk_0_48⟩
  | 49, _ => exact ⟨80, mOk_0_49⟩
  | 50, _ => exact ⟨80, mOk_0_50⟩
  | k + 51, h => omega
theorem mCh_0 : ∀ y, 0 ≤ y → y < 16 → mAll y := by
  intro y h1 h2
  obtain rfl | rfl | rfl | rfl | rfl | rfl | rfl | rfl | rfl | rfl | rfl | rfl | rfl | rfl | rfl | rfl : y = 0 ∨ y = 1 ∨ y = 2 ∨ y = 3 ∨ y = 4 ∨ y = 5 ∨ y = 6 ∨ y = 7 ∨ y = 8 ∨ y = 9 ∨ y = 10 ∨ y = 11 ∨ y = 12 ∨ y = 13 ∨ y = 14 ∨ y = 15 := by omega
  · exact mJ_0
  · exact mJ mOk_1 mB_1
  · exact mJ mOk_2 mB_2
  · exact mJ mOk_3 mB_3
  · exact mJ mOk_4 mB_4
  · exact mJ mOk_5 mB_5
  · exact mJ mOk_6 mB_6
  · exact mJ mOk_7 mB_7
  · exact mJ mOk_8 mB_8
  · exact mJ mOk_9 mB_9
  · exact mJ mOk_10 mB_10
  · exact mJ mOk_11 mB_11
  · exact mJ mOk_12 mB_12
  · exact mJ mOk_13 mB_13
  · exact mJ mOk_14 mB_14
  · exact mJ mOk_15 mB_15
theorem mCh_1 : ∀ y, 16 ≤ y → y < 32 → mAll y := by
  intro y h1 h2
  obtain rfl | rfl | rfl | rfl | rfl | rfl | rfl | rfl | rfl | rfl | rfl | rfl | rfl | rfl | rfl | rfl : y = 16 ∨ y = 17 ∨ y = 18 ∨ y = 19 ∨ y = 20 ∨ y = 21 ∨ y = 22 ∨ y = 23 ∨ y = 24 ∨ y = 25 ∨ y = 26 ∨ y = 27 ∨ y = 28 ∨ y = 29 ∨ y = 30 ∨ y = 31 := by omega
  · exact mJ mOk_16 mB_16
  · exact mJ mOk_17 mB_17
  · exact mJ mOk_18 mB_18
  · exact mJ mOk_19 mB_19
  · exact mJ mOk_20 mB_20
  · exact mJ mOk_21 mB_21
  · exact mJ mOk_22 mB_22
  · exact mJ mOk_23 mB_23
  · exact mJ mOk_24 mB_24
  · exact mJ mOk_25 mB_25
  · exact mJ mOk_26 mB_26
  · exact mJ mOk_27 mB_27
  · exact mJ mOk_28 mB_28
  · exact mJ mOk_29 mB_29
  · exact mJ mOk_30 mB_30
  · exact mJ mOk_31 mB_31
theorem mCh_2 : ∀ y, 32 ≤ y → y < 48 → mAll y := by
  intro y h1 h2
  obtain rfl | rfl | rfl | rfl | rfl | rfl | rfl | rfl | rfl | rfl | rfl | rfl | rfl | rfl | rfl | rfl : y = 32 ∨ y = 33 ∨ y = 34 ∨ y = 35 ∨ y = 36 ∨ y = 37 ∨ y = 38 ∨ y = 39 ∨ y = 40 ∨ y = 41 ∨ y = 42 ∨ y = 43 ∨ y = 44 ∨ y = 45 ∨ y = 46 ∨ y = 47 := by omega
  · exact mJ mOk_32 mB_32
  · exact mJ mOk_33 mB_33
  · exact mJ mOk_34 mB_34
  · exact mJ mOk_35 mB_35
  · exact mJ mOk_36 mB_36
  · exact mJ mOk_37 mB_37
  · exact mJ mOk_38 mB_38
  · exact mJ mOk_39 mB_39
  · exact mJ mOk_40 mB_40
  · exact mJ mOk_41 mB_41
  · exact mJ mOk_42 mB_42
  · exact mJ mOk_43 mB_43
  · exact mJ mOk_44 mB_44
  · exact mJ mOk_45 mB_45
  · exact mJ mOk_46 mB_46
  · exact mJ mOk_47 mB_47
theorem mCh_3 : ∀ y, 48 ≤ y → y < 64 → mAll y := by
  intro y h1 h2
  obtain rfl | rfl | rfl | rfl | rfl | rfl | rfl | rfl | rfl | rfl | rfl | rfl | rfl | rfl | rfl | rfl : y = 48 ∨ y = 49 ∨ y = 50 ∨ y = 51 ∨ y = 52 ∨ y = 53 ∨ y = 54 ∨ y = 55 ∨ y = 56 ∨ y = 57 ∨ y = 58 ∨ y = 59 ∨ y = 60 ∨ y = 61 ∨ y = 62 ∨ y = 63 := by omega
  · exact mJ mOk_48 mB_48
  · exact mJ mOk_49 mB_49
  · exact mJ mOk_50 mB_50
  · exact mJ mOk_51 mB_51
  · exact mJ mOk_52 mB_52
  · exact mJ mOk_53 mB_53
  · exact mJ mOk_54 mB_54
  · exact mJ mOk_55 mB_55
  · exact mJ mOk_56 mB_56
  · exact mJ mOk_57 mB_57
  · exact mJ mOk_58 mB_58
  · exact mJ mOk_59 mB_59
  · exact mJ mOk_60 mB_60
  · exact mJ mOk_61 mB_61
  · exact mJ mOk_62 mB_62
  · exact mJ mOk_63 mB_63
theorem mCh_4 : ∀ y, 64 ≤ y → y < 80 → mAll y := by
  intro y h1 h2
  obtain rfl | rfl | rfl | rfl | rfl | rfl | rfl | rfl | rfl | rfl | rfl | rfl | rfl | rfl | rfl | rfl : y = 64 ∨ y = 65 ∨ y = 66 ∨ y = 67 ∨ y = 68 ∨ y = 69 ∨ y = 70 ∨ y = 71 ∨ y = 72 ∨ y = 73 ∨ y = 74 ∨ y = 75 ∨ y = 76 ∨ y = 77 ∨ y = 78 ∨ y = 79 := by omega
  · exact mJ mOk_64 mB_64
  · exact mJ mOk_65 mB_65
  · exact mJ mOk_66 mB_66
  · exact mJ mOk_67 mB_67
  · exact mJ mOk_68 mB_68
  · exact mJ mOk_69 mB_69
  · exact mJ mOk_70 mB_70
  · exact mJ mOk_71 mB_71
  · exact mJ mOk_72 mB_72
  · exact mJ mOk_73 mB_73
  · exact mJ mOk_74 mB_74
  · exact mJ mOk_75 mB_75
  · exact mJ mOk_76 mB_76
  · exact mJ mOk_77 mB_77
  · exact mJ mOk_78 mB_78
  · exact mJ mOk_79 mB_79
theorem mCh_5 : ∀ y, 80 ≤ y → y < 96 → mAll y := by
  intro y h1 h2
  obtain rfl | rfl | rfl | rfl | rfl | rfl | rfl | rfl | rfl | rfl | rfl | rfl | rfl | rfl | rfl | rfl : y = 80 ∨ y = 81 ∨ y = 82 ∨ y = 83 ∨ y = 84 ∨ y = 85 ∨ y = 86 ∨ y = 87 ∨ y = 88 ∨ y = 89 ∨ y = 90 ∨ y = 91 ∨ y = 92 ∨ y = 93 ∨ y = 94 ∨ y = 95 := by omega
  · exact mJ mOk_80 mB_80
  · exact mJ mOk_81 mB_81
  · exact mJ mOk_82 mB_82
  · exact mJ mOk_83 mB_83
  · exact mJ mOk_84 mB_84
  · exact mJ mOk_85 mB_85
  · exact mJ mOk_86 mB_86
  · exact mJ mOk_87 mB_87
  · exact mJ mOk_88 mB_88
  · exact mJ mOk_89 mB_89
  · exact mJ mOk_90 mB_90
  · exact mJ mOk_91 mB_91
  · exact mJ mOk_92 mB_92
  · exact mJ mOk_93 mB_93
  · exact mJ mOk_94 mB_94
  · exact mJ mOk_95 mB_95
theorem mCh_6 : ∀ y, 96 ≤ y → y < 112 → mAll y := by
  intro y h1 h2
  obtain rfl | rfl | rfl | rfl | rfl | rfl | rfl | rfl | rfl | rfl | rfl | rfl | rfl | rfl | rfl | rfl : y = 96 ∨ y = 97 ∨ y = 98 ∨ y = 99 ∨ y = 100 ∨ y = 101 ∨ y = 102 ∨ y = 103 ∨ y = 104 ∨ y = 105 ∨ y = 106 ∨ y = 107 ∨ y = 108 ∨ y = 109 ∨ y = 110 ∨ y = 111 := by omega
  · exact mJ mOk_96 mB_96
  · exact mJ mOk_97 mB_97
  · exact mJ mOk_98 mB_98
  · exact mJ mOk_99 mB_99
  · exact mJ mOk_100 mB_100
  · exact mJ mOk_101 mB_101
  · exact mJ mOk_102 mB_102
  · exact mJ mOk_103 mB_103
  · exact mJ mOk_104 mB_104
  · exact mJ mOk_105 mB_105
  · exact mJ mOk_106 mB_106
  · exact mJ mOk_107 mB_107
  · exact mJ mOk_108 mB_108
  · exact mJ mOk_109 mB_109
  · exact mJ mOk_110 mB_110
  · exact mJ mOk_111 mB_111
theorem mCh_7 : ∀ y, 112 ≤ y → y < 128 → mAll y := by
  intro y h1 h2
  obtain rfl | rfl | rfl | rfl | rfl | rfl | rfl | rfl | rfl | rfl | rfl | rfl | rfl | rfl | rfl | rfl : y = 112 ∨ y = 113 ∨ y = 114 ∨ y = 115 ∨ y = 116 ∨ y = 117 ∨ y = 118 ∨ y = 119 ∨ y = 120 ∨ y = 121 ∨ y = 122 ∨ y = 123 ∨ y = 124 ∨ y = 125 ∨ y = 126 ∨ y = 127 := by omega
  · exact mJ mOk_112 mB_112
  · exact mJ mOk_113 mB_113
  · exact mJ mOk_114 mB_114
  · exact mJ mOk_115 mB_115
  · exact mJ mOk_116 mB_116
  · exact mJ mOk_117 mB_117
  · exact mJ mOk_118 mB_118
  · exact mJ mOk_119 mB_119
  · exact mJ mOk_120 mB_120
  · exact mJ mOk_121 mB_121
  · exact mJ mOk_122 mB_122
  · exact mJ mOk_123 mB_123
  · exact mJ mOk_124 mB_124
  · exact mJ mOk_125 mB_125
  · exact mJ mOk_126 mB_126
  · exact mJ mOk_127 mB_127
theorem mCh_8 : ∀ y, 128 ≤ y → y < 144 → mAll y := by
  intro y h1 h2
  obtain rfl | rfl | rfl | rfl | rfl | rfl | rfl | rfl | rfl | rfl | rfl | rfl | rfl | rfl | rfl | rfl : y = 128 ∨ y = 129 ∨ y = 130 ∨ y = 131 ∨ y = 132 ∨ y = 133 ∨ y = 134 ∨ y = 135 ∨ y = 136 ∨ y = 137 ∨ y = 138 ∨ y = 139 ∨ y = 140 ∨ y = 141 ∨ y = 142 ∨ y = 143 := by omega
  · exact mJ mOk_128 mB_128
  · exact mJ mOk_129 mB_129
  · exact mJ mOk_130 mB_130
  · exact mJ mOk_131 mB_131
  · exact mJ mOk_132 mB_132
  · exact mJ mOk_133 mB_133
  · exact mJ mOk_134 mB_134
  · exact mJ mOk_135 mB_135
  · exact mJ mOk_136 mB_136
  · exact mJ mOk_137 mB_137
  · exact mJ mOk_138 mB_138
  · exact mJ mOk_139 mB_139
  · exact mJ mOk_140 mB_140
  · exact mJ mOk_141 mB_141
  · exact mJ mOk_142 mB_142
  · exact mJ mOk_143 mB_143
theorem mCh_9 : ∀ y, 144 ≤ y → y < 160 → mAll y := by
  intro y h1 h2
  obtain rfl | rfl | rfl | rfl | rfl | rfl | rfl | rfl | rfl | rfl | rfl | rfl | rfl | rfl | rfl | rfl : y = 144 ∨ y = 145 ∨ y = 146 ∨ y = 147 ∨ y = 148 ∨ y = 149 ∨ y = 150 ∨ y = 151 ∨ y = 152 ∨ y = 153 ∨ y = 154 ∨ y = 155 ∨ y = 156 ∨ y = 157 ∨ y = 158 ∨ y = 159 := by omega
  · exact mJ mOk_144 mB_144
  · exact mJ mOk_145 mB_145
  · exact mJ mOk_146 mB_146
  · exact mJ mOk_147 mB_147
  · exact mJ mOk_148 mB_148
  · exact mJ mOk_149 mB_149
  · exact mJ mOk_150 mB_150
  · exact mJ mOk_151 mB_151
  · exact mJ mOk_152 mB_152
  · exact mJ mOk_153 mB_153
  · exact mJ mOk_154 mB_154
  · exact mJ mOk_155 mB_155
  · exact mJ mOk_156 mB_156
  · exact mJ mOk_157 mB_157
  · exact mJ mOk_158 mB_158
  · exact mJ mOk_159 mB_159
theorem mCh_10 : ∀ y, 160 ≤ y → y < 176 → mAll y := by
  intro y h1 h2
  obtain rfl | rfl | rfl | rfl | rfl | rfl | rfl | rfl | rfl | rfl | rfl | rfl | rfl | rfl | rfl | rfl : y = 160 ∨ y = 161 ∨ y = 162 ∨ y = 163 ∨ y = 164 ∨ y = 165 ∨ y = 166 ∨ y = 167 ∨ y = 168 ∨ y = 169 ∨ y = 170 ∨ y = 171 ∨ y = 172 ∨ y = 173 ∨ y = 174 ∨ y = 175 := by omega
  · exact mJ mOk_160 mB_160
  · exact mJ mOk_161 mB_161
  · exact mJ mOk_162 mB_162
  · exact mJ mOk_163 mB_163
  · exact mJ mOk_164 mB_164
  · exact mJ mOk_165 mB_165
  · exact mJ mOk_166 mB_166
  · exact mJ mOk_167 mB_167
  · exact mJ mOk_168 mB_168
  · exact mJ mOk_169 mB_169
  · exact mJ mOk_170 mB_170
  · exact mJ mOk_171 mB_171
  · exact mJ mOk_172 mB_172
  · exact mJ mOk_173 mB_173
  · exact mJ mOk_174 mB_174
  · exact mJ mOk_175 mB_175
theorem mCh_11 : ∀ y, 176 ≤ y → y < 192 → mAll y := by
  intro y h1 h2
  obtain rfl | rfl | rfl | rfl | rfl | rfl | rfl | rfl | rfl | rfl | rfl | rfl | rfl | rfl | rfl | rfl : y = 176 ∨ y = 177 ∨ y = 178 ∨ y = 179 ∨ y = 180 ∨ y = 181 ∨ y = 182 ∨ y = 183 ∨ y = 184 ∨ y = 185 ∨ y = 186 ∨ y = 187 ∨ y = 188 ∨ y = 189 ∨ y = 190 ∨ y = 191 := by omega
  · exact mJ mOk_176 mB_176
  · exact mJ mOk_177 mB_177
  · exact mJ mOk_178 mB_178
  · exact mJ mOk_179 mB_179
  · exact mJ mOk_180 mB_180
  · exact mJ mOk_181 mB_181
  · exact mJ mOk_182 mB_182
  · exact mJ mOk_183 mB_183
  · exact mJ mOk_184 mB_184
  · exact mJ mOk_185 mB_185
  · exact mJ mOk_186 mB_186
  · exact mJ mOk_187 mB_187
  · exact mJ mOk_188 mB_188
  · exact mJ mOk_189 mB_189
  · exact mJ mOk_190 mB_190
  · exact mJ mOk_191 mB_191
theorem mCh_12 : ∀ y, 192 ≤ y → y < 208 → mAll y := by
  intro y h1 h2
  obtain rfl | rfl | rfl | rfl | rfl | rfl | rfl | rfl | rfl | rfl | rfl | rfl | rfl | rfl | rfl | rfl : y = 192 ∨ y = 193 ∨ y = 194 ∨ y = 195 ∨ y = 196 ∨ y = 197 ∨ y = 198 ∨ y = 199 ∨ y = 200 ∨ y = 201 ∨ y = 202 ∨ y = 203 ∨ y = 204 ∨ y = 205 ∨ y = 206 ∨ y = 207 := by omega
  · exact mJ mOk_192 mB_192
  · exact mJ mOk_193 mB_193
  · exact mJ mOk_194 mB_194
  · exact mJ mOk_195 mB_195
  · exact mJ mOk_196 mB_196
  · exact mJ mOk_197 mB_197
  · exact mJ mOk_198 mB_198
  · exact mJ mOk_199 mB_199
  · exact mJ mOk_200 mB_200
  · exact mJ mOk_201 mB_201
  · exact mJ mOk_202 mB_202
  · exact mJ mOk_203 mB_203
  · exact mJ mOk_204 mB_204
  · exact mJ mOk_205 mB_205
  · exact mJ mOk_206 mB_206
  · exact mJ mOk_207 mB_207
theorem mCh_13 : ∀ y, 208 ≤ y → y < 224 → mAll y := by
  intro y h1 h2
  obtain rfl | rfl | rfl | rfl | rfl | rfl | rfl | rfl | rfl | rfl | rfl | rfl | rfl | rfl | rfl | rfl : y = 208 ∨ y = 209 ∨ y = 210 ∨ y = 211 ∨ y = 212 ∨ y = 213 ∨ y = 214 ∨ y = 215 ∨ y = 216 ∨ y = 217 ∨ y = 218 ∨ y = 219 ∨ y = 220 ∨ y = 221 ∨ y = 222 ∨ y = 223 := by omega
  · exact mJ mOk_208 mB_208
  · exact mJ mOk_209 mB_209
  · exact mJ mOk_210 mB_210
  · exact mJ mOk_211 mB_211
  · exact mJ mOk_212 mB_212
  · exact mJ mOk_213 mB_213
  · exact mJ mOk_214 mB_214
  · exact mJ mOk_215 mB_215
  · exact mJ mOk_216 mB_216
  · exact mJ mOk_217 mB_217
  · exact mJ mOk_218 mB_218
  · exact mJ mOk_219 mB_219
  · exact mJ mOk_220 mB_220
  · exact mJ mOk_221 mB_221
  · exact mJ mOk_222 mB_222
  · exact mJ mOk_223 mB_223
theorem mCh_14 : ∀ y, 224 ≤ y → y < 240 → mAll y := by
  intro y h1 h2
  obtain rfl | rfl | rfl | rfl | rfl | rfl | rfl | rfl | rfl | rfl | rfl | rfl | rfl | rfl | rfl | rfl : y = 224 ∨ y = 225 ∨ y = 226 ∨ y = 227 ∨ y = 228 ∨ y = 229 ∨ y = 230 ∨ y = 231 ∨ y = 232 ∨ y = 233 ∨ y = 234 ∨ y = 235 ∨ y = 236 ∨ y = 237 ∨ y = 238 ∨ y = 239 := by omega
  · exact mJ mOk_224 mB_224
  · exact mJ mOk_225 mB_225
  · exact mJ mOk_226 mB_226
  · exact mJ mOk_227 mB_227
  · exact mJ mOk_228 mB_228
  · exact mJ mOk_229 mB_229
  · exact mJ mOk_230 mB_230
  · exact mJ mOk_231 mB_231
  · exact mJ mOk_232 mB_232
  · exact mJ mOk_233 mB_233
  · exact mJ mOk_234 mB_234
  · exact mJ mOk_235 mB_235
  · exact mJ mOk_236 mB_236
  · exact mJ mOk_237 mB_237
  · exact mJ mOk_238 mB_238
  · exact mJ mOk_239 mB_239
theorem mCh_15 : ∀ y, 240 ≤ y → y < 256 → mAll y := by
  intro y h1 h2
  obtain rfl | rfl | rfl | rfl | rfl | rfl | rfl | rfl | rfl | rfl | rfl | rfl | rfl | rfl | rfl | rfl : y = 240 ∨ y = 241 ∨ y = 242 ∨ y = 243 ∨ y = 244 ∨ y = 245 ∨ y = 246 ∨ y = 247 ∨ y = 248 ∨ y = 249 ∨ y = 250 ∨ y = 251 ∨ y = 252 ∨ y = 253 ∨ y = 254 ∨ y = 255 := by omega
  · exact mJ mOk_240 mB_240
  · exact mJ mOk_241 mB_241
  · exact mJ mOk_242 mB_242
  · exact mJ mOk_243 mB_243
  · exact mJ mOk_244 mB_244
  · exact mJ mOk_245 mB_245
  · exact mJ mOk_246 mB_246
  · exact mJ mOk_247 mB_247
  · exact mJ mOk_248 mB_248
  · exact mJ mOk_249 mB_249
  · exact mJ mOk_250 mB_250
  · exact mJ mOk_251 mB_251
  · exact mJ mOk_252 mB_252
  · exact mJ mOk_253 mB_253
  · exact mJ mOk_254 mB_254
  · exact mJ mOk_255 mB_255
theorem mCh_16 : ∀ y, 256 ≤ y → y < 272 → mAll y := by
  intro y h1 h2
  obtain rfl | rfl | rfl | rfl | rfl | rfl | rfl | rfl | rfl | rfl | rfl | rfl | rfl | rfl | rfl | rfl : y = 256 ∨ y = 257 ∨ y = 258 ∨ y = 259 ∨ y = 260 ∨ y = 261 ∨ y = 262 ∨ y = 263 ∨ y = 264 ∨ y = 265 ∨ y = 266 ∨ y = 267 ∨ y = 268 ∨ y = 269 ∨ y = 270 ∨ y = 271 := by omega
  · exact mJ mOk_256 mB_256
  · exact mJ mOk_257 mB_257
  · exact mJ mOk_258 mB_258
  · exact mJ mOk_259 mB_259
  · exact mJ mOk_260 mB_260
  · exact mJ mOk_261 mB_261
  · exact mJ mOk_262 mB_262
  · exact mJ mOk_263 mB_263
  · exact mJ mOk_264 mB_264
  · exact mJ mOk_265 mB_265
  · exact mJ mOk_266 mB_266
  · exact mJ mOk_267 mB_267
  · exact mJ mOk_268 mB_268
  · exact mJ mOk_269 mB_269
  · exact mJ mOk_270 mB_270
  · exact mJ mOk_271 mB_271
theorem mCh_17 : ∀ y, 272 ≤ y → y < 283 → mAll y := by
  intro y h1 h2
  obtain rfl | rfl | rfl | rfl | rfl | rfl | rfl | rfl | rfl | rfl | rfl : y = 272 ∨ y = 273 ∨ y = 274 ∨ y = 275 ∨ y = 276 ∨ y = 277 ∨ y = 278 ∨ y = 279 ∨ y = 280 ∨ y = 281 ∨ y = 282 := by omega
  · exact mJ mOk_272 mB_272
  · exact mJ mOk_273 mB_273
  · exact mJ mOk_274 mB_274
  · exact mJ mOk_275 mB_275
  · exact mJ mOk_276 mB_276
  · exact mJ mOk_277 mB_277
  · exact mJ mOk_278 mB_278
  · exact mJ mOk_279 mB_279
  · exact mJ mOk_280 mB_280
  · exact mJ mOk_281 mB_281
  · exact mJ mOk_282 mB_282
theorem hOk_all : ∀ y pc e, y < 283 → mF y pc = some e → mOkE y pc e = true := by
  intro y pc e hy he
  by_cases h0 : y < 16
  · exact mCh_0 y (by omega) h0 pc e he
  by_cases h1 : y < 32
  · exact mCh_1 y (by omega) h1 pc e he
  by_cases h2 : y < 48
  · exact mCh_2 y (by omega) h2 pc e he
  by_cases h3 : y < 64
  · exact mCh_3 y (by omega) h3 pc e he
  by_cases h4 : y < 80
  · exact mCh_4 y (by omega) h4 pc e he
  by_cases h5 : y < 96
  · exact mCh_5 y (by omega) h5 pc e he
  by_cases h6 : y < 112
  · exact mCh_6 y (by omega) h6 pc e he
  by_cases h7 : y < 128
  · exact mCh_7 y (by omega) h7 pc e he
  by_cases h8 : y < 144
  · exact mCh_8 y (by omega) h8 pc e he
  by_cases h9 : y < 160
  · exact mCh_9 y (by omega) h9 pc e he
  by_cases h10 : y < 176
  · exact mCh_10 y (by omega) h10 pc e he
  by_cases h11 : y < 192
  · exact mCh_11 y (by omega) h11 pc e he
  by_cases h12 : y < 208
  · exact mCh_12 y (by omega) h12 pc e he
  by_cases h13 : y < 224
  · exact mCh_13 y (by omega) h13 pc e he
  by_cases h14 : y < 240
  · exact mCh_14 y (by omega) h14 pc e he
  by_cases h15 : y < 256
  · exact mCh_15 y (by omega) h15 pc e he
  by_cases h16 : y < 272
  · exact mCh_16 y (by omega) h16 pc e he
  exact mCh_17 y (by omega) (by omega) pc e he
theorem mMl_mem : ∀ q ∈ mMl, mMok q = true := by
  unfold mMl
  simp only [List.mem_append]
  intro q hq
  rcases hq with h | h | h | h | h | h | h | h | h | h | h | h | h | h | h | h | h | h | h | h | h | h | h | h | h | h | h | h | h | h | h | h | h | h | h | h | h | h | h | h | h | h | h | h | h | h | h | h
  · exact mMl_ok_0 q h
  · exact mMl_ok_1 q h
  · exact mMl_ok_2 q h
  · exact mMl_ok_3 q h
  · exact mMl_ok_4 q h
  · exact mMl_ok_5 q h
  · exact mMl_ok_6 q h
  · exact mMl_ok_7 q h
  · exact mMl_ok_8 q h
  · exact mMl_ok_9 q h
  · exact mMl_ok_10 q h
  · exact mMl_ok_11 q h
  · exact mMl_ok_12 q h
  · exact mMl_ok_13 q h
  · exact mMl_ok_14 q h
  · exact mMl_ok_15 q h
  · exact mMl_ok_16 q h
  · exact mMl_ok_17 q h
  · exact mMl_ok_18 q h
  · exact mMl_ok_19 q h
  · exact mMl_ok_20 q h
  · exact mMl_ok_21 q h
  · exact mMl_ok_22 q h
  · exact mMl_ok_23 q h
  · exact mMl_ok_24 q h
  · exact mMl_ok_25 q h
  · exact mMl_ok_26 q h
  · exact mMl_ok_27 q h
  · exact mMl_ok_28 q h
  · exact mMl_ok_29 q h
  · exact mMl_ok_30 q h
  · exact mMl_ok_31 q h
  · exact mMl_ok_32 q h
  · exact mMl_ok_33 q h
  · exact mMl_ok_34 q h
  · exact mMl_ok_35 q h
  · exact mMl_ok_36 q h
  · exact mMl_ok_37 q h
  · exact mMl_ok_38 q h
  · exact mMl_ok_39 q h
  · exact mMl_ok_40 q h
  · exact mMl_ok_41 q h
  · exact mMl_ok_42 q h
  · exact mMl_ok_43 q h
  · exact mMl_ok_44 q h
  · exact mMl_ok_45 q h
  · exact mMl_ok_46 q h
  · exact mMl_ok_47 q h
theorem hMm_all : ∀ y, y < 283 → mMok (mM y) = true := by
  intro y hy
  have hl : mMl.length = 283 := by decide +kernel
  have h : mM y = mMl[y]'(by omega) := by
    unfold mM
    rw [List.getD_eq_getElem?_getD, List.getElem?_eq_getElem (by omega)]
    rfl
  rw [h]
  exact mMl_mem _ (List.getElem_mem _)
theorem whole_start {p : Program} {e : Env} {s : State} {m : MethodId} {below : List Frame} {meth : Method} {c : Code} (l : Launch) (hflags : l.flags = flags0) {b L : Nat} {xs : Nat → Int32} (hL : L ≤ 3584) (C0 : lw_At p s m meth c b L xs) : W p l e room_1 s m #[Value.ref b] below meth c s.heap [] 0 0 (lw_Z below #[Value.ref b] s) (entryFrame m ([Value.ref b] : List Value).toArray 7) := mStart l hflags hOk_all hMm_all C0 (nAll hL)
