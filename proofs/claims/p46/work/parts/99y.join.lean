/-! ===== every row, every method ===== -/
theorem mReal_in {y : Nat} (h : mReal y = true) : y < 283 ∧ ¬ (11 ≤ y ∧ y < 42) ∧ ¬ (170 ≤ y ∧ y < 263) := by
  unfold mReal at h
  simp only [Bool.and_eq_true, Bool.not_eq_true', Bool.and_eq_false_iff, Nat.blt_eq, Nat.ble_eq, ← Bool.not_eq_true] at h
  omega
def mAll (y : Nat) : Prop := ∀ pc e, mF y pc = some e → mOkE y pc e = true
theorem mJ {y n : Nat} (h : mOkR y 0 n = true) (hb : ∀ p, n ≤ p → mF y p = none) : mAll y := by
  intro pc e he
  by_cases hp : pc < n
  · unfold mOkR at h
    rw [List.all_eq_true] at h
    have h2 := h pc (List.mem_range.mpr hp)
    simp only [Nat.zero_add, he] at h2
    exact h2
  · rw [hb pc (by omega)] at he
    cases he
theorem mJ_0 : mAll 0 := by
  refine wd_all (y := 0) (nw := 10) (N := 583) (by decide) (by decide +kernel) mB_0 (fun j hj => ?_)
  match j, hj with
  | 0, _ => exact ⟨512, mOk_0_0⟩
  | 1, _ => exact ⟨80, mOk_0_1⟩
  | 2, _ => exact ⟨80, mOk_0_2⟩
  | 3, _ => exact ⟨80, mOk_0_3⟩
  | 4, _ => exact ⟨80, mOk_0_4⟩
  | 5, _ => exact ⟨80, mOk_0_5⟩
  | 6, _ => exact ⟨80, mOk_0_6⟩
  | 7, _ => exact ⟨80, mOk_0_7⟩
  | 8, _ => exact ⟨80, mOk_0_8⟩
  | 9, _ => exact ⟨80, mOk_0_9⟩
  | k + 10, h => omega
theorem mJ_4 : mAll 4 := by
  refine wd_all (y := 4) (nw := 14) (N := 874) (by decide) (by decide +kernel) mB_4 (fun j hj => ?_)
  match j, hj with
  | 0, _ => exact ⟨80, mOk_4_0⟩
  | 1, _ => exact ⟨80, mOk_4_1⟩
  | 2, _ => exact ⟨80, mOk_4_2⟩
  | 3, _ => exact ⟨80, mOk_4_3⟩
  | 4, _ => exact ⟨80, mOk_4_4⟩
  | 5, _ => exact ⟨80, mOk_4_5⟩
  | 6, _ => exact ⟨80, mOk_4_6⟩
  | 7, _ => exact ⟨80, mOk_4_7⟩
  | 8, _ => exact ⟨80, mOk_4_8⟩
  | 9, _ => exact ⟨80, mOk_4_9⟩
  | 10, _ => exact ⟨80, mOk_4_10⟩
  | 11, _ => exact ⟨80, mOk_4_11⟩
  | 12, _ => exact ⟨80, mOk_4_12⟩
  | 13, _ => exact ⟨80, mOk_4_13⟩
  | k + 14, h => omega
theorem mJ_8 : mAll 8 := by
  refine wd_all (y := 8) (nw := 16) (N := 987) (by decide) (by decide +kernel) mB_8 (fun j hj => ?_)
  match j, hj with
  | 0, _ => exact ⟨80, mOk_8_0⟩
  | 1, _ => exact ⟨80, mOk_8_1⟩
  | 2, _ => exact ⟨80, mOk_8_2⟩
  | 3, _ => exact ⟨80, mOk_8_3⟩
  | 4, _ => exact ⟨80, mOk_8_4⟩
  | 5, _ => exact ⟨80, mOk_8_5⟩
  | 6, _ => exact ⟨80, mOk_8_6⟩
  | 7, _ => exact ⟨80, mOk_8_7⟩
  | 8, _ => exact ⟨80, mOk_8_8⟩
  | 9, _ => exact ⟨80, mOk_8_9⟩
  | 10, _ => exact ⟨80, mOk_8_10⟩
  | 11, _ => exact ⟨80, mOk_8_11⟩
  | 12, _ => exact ⟨80, mOk_8_12⟩
  | 13, _ => exact ⟨80, mOk_8_13⟩
  | 14, _ => exact ⟨80, mOk_8_14⟩
  | 15, _ => exact ⟨80, mOk_8_15⟩
  | k + 16, h => omega
theorem mJ_10 : mAll 10 := by
  refine wd_all (y := 10) (nw := 23) (N := 1435) (by decide) (by decide +kernel) mB_10 (fun j hj => ?_)
  match j, hj with
  | 0, _ => exact ⟨80, mOk_10_0⟩
  | 1, _ => exact ⟨80, mOk_10_1⟩
  | 2, _ => exact ⟨80, mOk_10_2⟩
  | 3, _ => exact ⟨80, mOk_10_3⟩
  | 4, _ => exact ⟨80, mOk_10_4⟩
  | 5, _ => exact ⟨80, mOk_10_5⟩
  | 6, _ => exact ⟨80, mOk_10_6⟩
  | 7, _ => exact ⟨80, mOk_10_7⟩
  | 8, _ => exact ⟨80, mOk_10_8⟩
  | 9, _ => exact ⟨80, mOk_10_9⟩
  | 10, _ => exact ⟨80, mOk_10_10⟩
  | 11, _ => exact ⟨80, mOk_10_11⟩
  | 12, _ => exact ⟨80, mOk_10_12⟩
  | 13, _ => exact ⟨80, mOk_10_13⟩
  | 14, _ => exact ⟨80, mOk_10_14⟩
  | 15, _ => exact ⟨80, mOk_10_15⟩
  | 16, _ => exact ⟨80, mOk_10_16⟩
  | 17, _ => exact ⟨80, mOk_10_17⟩
  | 18, _ => exact ⟨80, mOk_10_18⟩
  | 19, _ => exact ⟨80, mOk_10_19⟩
  | 20, _ => exact ⟨80, mOk_10_20⟩
  | 21, _ => exact ⟨80, mOk_10_21⟩
  | 22, _ => exact ⟨80, mOk_10_22⟩
  | k + 23, h => omega
theorem mCh_0 : ∀ y, mReal y = true → 0 ≤ y → y < 47 → mAll y := by
  intro y hr h1 h2
  have h3 := mReal_in hr
  obtain rfl | rfl | rfl | rfl | rfl | rfl | rfl | rfl | rfl | rfl | rfl | rfl | rfl | rfl | rfl | rfl : y = 0 ∨ y = 1 ∨ y = 2 ∨ y = 3 ∨ y = 4 ∨ y = 5 ∨ y = 6 ∨ y = 7 ∨ y = 8 ∨ y = 9 ∨ y = 10 ∨ y = 42 ∨ y = 43 ∨ y = 44 ∨ y = 45 ∨ y = 46 := by omega
  · exact mJ_0
  · exact mJ mOk_1 mB_1
  · exact mJ mOk_2 mB_2
  · exact mJ mOk_3 mB_3
  · exact mJ_4
  · exact mJ mOk_5 mB_5
  · exact mJ mOk_6 mB_6
  · exact mJ mOk_7 mB_7
  · exact mJ_8
  · exact mJ mOk_9 mB_9
  · exact mJ_10
  · exact mJ mOk_42 mB_42
  · exact mJ mOk_43 mB_43
  · exact mJ mOk_44 mB_44
  · exact mJ mOk_45 mB_45
  · exact mJ mOk_46 mB_46
theorem mCh_1 : ∀ y, mReal y = true → 47 ≤ y → y < 63 → mAll y := by
  intro y hr h1 h2
  have h3 := mReal_in hr
  obtain rfl | rfl | rfl | rfl | rfl | rfl | rfl | rfl | rfl | rfl | rfl | rfl | rfl | rfl | rfl | rfl : y = 47 ∨ y = 48 ∨ y = 49 ∨ y = 50 ∨ y = 51 ∨ y = 52 ∨ y = 53 ∨ y = 54 ∨ y = 55 ∨ y = 56 ∨ y = 57 ∨ y = 58 ∨ y = 59 ∨ y = 60 ∨ y = 61 ∨ y = 62 := by omega
  · exact mJ mOk_47 mB_47
  · exact mJ mOk_48 mB_48
  · exact mJ mOk_49 mB_49
  · exact mJ mOk_50 mB_50
  · exact mJ mOk_51 mB_51
  · exact mJ mOk_52 mB_52
  · exact mJ mOk_53 mB_53
  · exact mJ mOk_54 mB_54
  · exact mJ mOk_55 mB_55
  · exact mJ mOk_56 mB_56
  · exact mJ mOk_57 mB_57
  · exact mJ mOk_58 mB_58
  · exact mJ mOk_59 mB_59
  · exact mJ mOk_60 mB_60
  · exact mJ mOk_61 mB_61
  · exact mJ mOk_62 mB_62
theorem mCh_2 : ∀ y, mReal y = true → 63 ≤ y → y < 79 → mAll y := by
  intro y hr h1 h2
  have h3 := mReal_in hr
  obtain rfl | rfl | rfl | rfl | rfl | rfl | rfl | rfl | rfl | rfl | rfl | rfl | rfl | rfl | rfl | rfl : y = 63 ∨ y = 64 ∨ y = 65 ∨ y = 66 ∨ y = 67 ∨ y = 68 ∨ y = 69 ∨ y = 70 ∨ y = 71 ∨ y = 72 ∨ y = 73 ∨ y = 74 ∨ y = 75 ∨ y = 76 ∨ y = 77 ∨ y = 78 := by omega
  · exact mJ mOk_63 mB_63
  · exact mJ mOk_64 mB_64
  · exact mJ mOk_65 mB_65
  · exact mJ mOk_66 mB_66
  · exact mJ mOk_67 mB_67
  · exact mJ mOk_68 mB_68
  · exact mJ mOk_69 mB_69
  · exact mJ mOk_70 mB_70
  · exact mJ mOk_71 mB_71
  · exact mJ mOk_72 mB_72
  · exact mJ mOk_73 mB_73
  · exact mJ mOk_74 mB_74
  · exact mJ mOk_75 mB_75
  · exact mJ mOk_76 mB_76
  · exact mJ mOk_77 mB_77
  · exact mJ mOk_78 mB_78
theorem mCh_3 : ∀ y, mReal y = true → 79 ≤ y → y < 95 → mAll y := by
  intro y hr h1 h2
  have h3 := mReal_in hr
  obtain rfl | rfl | rfl | rfl | rfl | rfl | rfl | rfl | rfl | rfl | rfl | rfl | rfl | rfl | rfl | rfl : y = 79 ∨ y = 80 ∨ y = 81 ∨ y = 82 ∨ y = 83 ∨ y = 84 ∨ y = 85 ∨ y = 86 ∨ y = 87 ∨ y = 88 ∨ y = 89 ∨ y = 90 ∨ y = 91 ∨ y = 92 ∨ y = 93 ∨ y = 94 := by omega
  · exact mJ mOk_79 mB_79
  · exact mJ mOk_80 mB_80
  · exact mJ mOk_81 mB_81
  · exact mJ mOk_82 mB_82
  · exact mJ mOk_83 mB_83
  · exact mJ mOk_84 mB_84
  · exact mJ mOk_85 mB_85
  · exact mJ mOk_86 mB_86
  · exact mJ mOk_87 mB_87
  · exact mJ mOk_88 mB_88
  · exact mJ mOk_89 mB_89
  · exact mJ mOk_90 mB_90
  · exact mJ mOk_91 mB_91
  · exact mJ mOk_92 mB_92
  · exact mJ mOk_93 mB_93
  · exact mJ mOk_94 mB_94
theorem mCh_4 : ∀ y, mReal y = true → 95 ≤ y → y < 111 → mAll y := by
  intro y hr h1 h2
  have h3 := mReal_in hr
  obtain rfl | rfl | rfl | rfl | rfl | rfl | rfl | rfl | rfl | rfl | rfl | rfl | rfl | rfl | rfl | rfl : y = 95 ∨ y = 96 ∨ y = 97 ∨ y = 98 ∨ y = 99 ∨ y = 100 ∨ y = 101 ∨ y = 102 ∨ y = 103 ∨ y = 104 ∨ y = 105 ∨ y = 106 ∨ y = 107 ∨ y = 108 ∨ y = 109 ∨ y = 110 := by omega
  · exact mJ mOk_95 mB_95
  · exact mJ mOk_96 mB_96
  · exact mJ mOk_97 mB_97
  · exact mJ mOk_98 mB_98
  · exact mJ mOk_99 mB_99
  · exact mJ mOk_100 mB_100
  · exact mJ mOk_101 mB_101
  · exact mJ mOk_102 mB_102
  · exact mJ mOk_103 mB_103
  · exact mJ mOk_104 mB_104
  · exact mJ mOk_105 mB_105
  · exact mJ mOk_106 mB_106
  · exact mJ mOk_107 mB_107
  · exact mJ mOk_108 mB_108
  · exact mJ mOk_109 mB_109
  · exact mJ mOk_110 mB_110
theorem mCh_5 : ∀ y, mReal y = true → 111 ≤ y → y < 127 → mAll y := by
  intro y hr h1 h2
  have h3 := mReal_in hr
  obtain rfl | rfl | rfl | rfl | rfl | rfl | rfl | rfl | rfl | rfl | rfl | rfl | rfl | rfl | rfl | rfl : y = 111 ∨ y = 112 ∨ y = 113 ∨ y = 114 ∨ y = 115 ∨ y = 116 ∨ y = 117 ∨ y = 118 ∨ y = 119 ∨ y = 120 ∨ y = 121 ∨ y = 122 ∨ y = 123 ∨ y = 124 ∨ y = 125 ∨ y = 126 := by omega
  · exact mJ mOk_111 mB_111
  · exact mJ mOk_112 mB_112
  · exact mJ mOk_113 mB_113
  · exact mJ mOk_114 mB_114
  · exact mJ mOk_115 mB_115
  · exact mJ mOk_116 mB_116
  · exact mJ mOk_117 mB_117
  · exact mJ mOk_118 mB_118
  · exact mJ mOk_119 mB_119
  · exact mJ mOk_120 mB_120
  · exact mJ mOk_121 mB_121
  · exact mJ mOk_122 mB_122
  · exact mJ mOk_123 mB_123
  · exact mJ mOk_124 mB_124
  · exact mJ mOk_125 mB_125
  · exact mJ mOk_126 mB_126
theorem mCh_6 : ∀ y, mReal y = true → 127 ≤ y → y < 143 → mAll y := by
  intro y hr h1 h2
  have h3 := mReal_in hr
  obtain rfl | rfl | rfl | rfl | rfl | rfl | rfl | rfl | rfl | rfl | rfl | rfl | rfl | rfl | rfl | rfl : y = 127 ∨ y = 128 ∨ y = 129 ∨ y = 130 ∨ y = 131 ∨ y = 132 ∨ y = 133 ∨ y = 134 ∨ y = 135 ∨ y = 136 ∨ y = 137 ∨ y = 138 ∨ y = 139 ∨ y = 140 ∨ y = 141 ∨ y = 142 := by omega
  · exact mJ mOk_127 mB_127
  · exact mJ mOk_128 mB_128
  · exact mJ mOk_129 mB_129
  · exact mJ mOk_130 mB_130
  · exact mJ mOk_131 mB_131
  · exact mJ mOk_132 mB_132
  · exact mJ mOk_133 mB_133
  · exact mJ mOk_134 mB_134
  · exact mJ mOk_135 mB_135
  · exact mJ mOk_136 mB_136
  · exact mJ mOk_137 mB_137
  · exact mJ mOk_138 mB_138
  · exact mJ mOk_139 mB_139
  · exact mJ mOk_140 mB_140
  · exact mJ mOk_141 mB_141
  · exact mJ mOk_142 mB_142
theorem mCh_7 : ∀ y, mReal y = true → 143 ≤ y → y < 159 → mAll y := by
  intro y hr h1 h2
  have h3 := mReal_in hr
  obtain rfl | rfl | rfl | rfl | rfl | rfl | rfl | rfl | rfl | rfl | rfl | rfl | rfl | rfl | rfl | rfl : y = 143 ∨ y = 144 ∨ y = 145 ∨ y = 146 ∨ y = 147 ∨ y = 148 ∨ y = 149 ∨ y = 150 ∨ y = 151 ∨ y = 152 ∨ y = 153 ∨ y = 154 ∨ y = 155 ∨ y = 156 ∨ y = 157 ∨ y = 158 := by omega
  · exact mJ mOk_143 mB_143
  · exact mJ mOk_144 mB_144
  · exact mJ mOk_145 mB_145
  · exact mJ mOk_146 mB_146
  · exact mJ mOk_147 mB_147
  · exact mJ mOk_148 mB_148
  · exact mJ mOk_149 mB_149
  · exact mJ mOk_150 mB_150
  · exact mJ mOk_151 mB_151
  · exact mJ mOk_152 mB_152
  · exact mJ mOk_153 mB_153
  · exact mJ mOk_154 mB_154
  · exact mJ mOk_155 mB_155
  · exact mJ mOk_156 mB_156
  · exact mJ mOk_157 mB_157
  · exact mJ mOk_158 mB_158
theorem mCh_8 : ∀ y, mReal y = true → 159 ≤ y → y < 268 → mAll y := by
  intro y hr h1 h2
  have h3 := mReal_in hr
  obtain rfl | rfl | rfl | rfl | rfl | rfl | rfl | rfl | rfl | rfl | rfl | rfl | rfl | rfl | rfl | rfl : y = 159 ∨ y = 160 ∨ y = 161 ∨ y = 162 ∨ y = 163 ∨ y = 164 ∨ y = 165 ∨ y = 166 ∨ y = 167 ∨ y = 168 ∨ y = 169 ∨ y = 263 ∨ y = 264 ∨ y = 265 ∨ y = 266 ∨ y = 267 := by omega
  · exact mJ mOk_159 mB_159
  · exact mJ mOk_160 mB_160
  · exact mJ mOk_161 mB_161
  · exact mJ mOk_162 mB_162
  · exact mJ mOk_163 mB_163
  · exact mJ mOk_164 mB_164
  · exact mJ mOk_165 mB_165
  · exact mJ mOk_166 mB_166
  · exact mJ mOk_167 mB_167
  · exact mJ mOk_168 mB_168
  · exact mJ mOk_169 mB_169
  · exact mJ mOk_263 mB_263
  · exact mJ mOk_264 mB_264
  · exact mJ mOk_265 mB_265
  · exact mJ mOk_266 mB_266
  · exact mJ mOk_267 mB_267
theorem mCh_9 : ∀ y, mReal y = true → 268 ≤ y → y < 283 → mAll y := by
  intro y hr h1 h2
  have h3 := mReal_in hr
  obtain rfl | rfl | rfl | rfl | rfl | rfl | rfl | rfl | rfl | rfl | rfl | rfl | rfl | rfl | rfl : y = 268 ∨ y = 269 ∨ y = 270 ∨ y = 271 ∨ y = 272 ∨ y = 273 ∨ y = 274 ∨ y = 275 ∨ y = 276 ∨ y = 277 ∨ y = 278 ∨ y = 279 ∨ y = 280 ∨ y = 281 ∨ y = 282 := by omega
  · exact mJ mOk_268 mB_268
  · exact mJ mOk_269 mB_269
  · exact mJ mOk_270 mB_270
  · exact mJ mOk_271 mB_271
  · exact mJ mOk_272 mB_272
  · exact mJ mOk_273 mB_273
  · exact mJ mOk_274 mB_274
  · exact mJ mOk_275 mB_275
  · exact mJ mOk_276 mB_276
  · exact mJ mOk_277 mB_277
  · exact mJ mOk_278 mB_278
  · exact mJ mOk_279 mB_279
  · exact mJ mOk_280 mB_280
  · exact mJ mOk_281 mB_281
  · exact mJ mOk_282 mB_282
theorem hOk_all : ∀ y pc e, mReal y = true → mF y pc = some e → mOkE y pc e = true := by
  intro y pc e hr he
  have h3 := mReal_in hr
  by_cases h0 : y < 47
  · exact mCh_0 y hr (by omega) h0 pc e he
  by_cases h1 : y < 63
  · exact mCh_1 y hr (by omega) h1 pc e he
  by_cases h2 : y < 79
  · exact mCh_2 y hr (by omega) h2 pc e he
  by_cases h3 : y < 95
  · exact mCh_3 y hr (by omega) h3 pc e he
  by_cases h4 : y < 111
  · exact mCh_4 y hr (by omega) h4 pc e he
  by_cases h5 : y < 127
  · exact mCh_5 y hr (by omega) h5 pc e he
  by_cases h6 : y < 143
  · exact mCh_6 y hr (by omega) h6 pc e he
  by_cases h7 : y < 159
  · exact mCh_7 y hr (by omega) h7 pc e he
  by_cases h8 : y < 268
  · exact mCh_8 y hr (by omega) h8 pc e he
  exact mCh_9 y hr (by omega) (by omega) pc e he
theorem mMl_mem : ∀ q ∈ mMl, mMok q = true := by
  unfold mMl
  simp only [List.mem_append]
  intro q hq
  rcases hq with h | h | h | h | h | h | h | h | h | h | h | h | h | h | h | h | h | h | h | h | h | h | h | h | h | h | h | h | h | h | h | h | h | h | h | h | h | h | h | h | h | h | h | h | h | h | h | h
  · exact mMl_ok_0 q h
  · exact mMl_ok_1 q h
  · exact mMl_ok_2 q h
  · exact mMl_ok_3 q h
  · exact mMl_ok_4 q h
  · exact mMl_ok_5 q h
  · exact mMl_ok_6 q h
  · exact mMl_ok_7 q h
  · exact mMl_ok_8 q h
  · exact mMl_ok_9 q h
  · exact mMl_ok_10 q h
  · exact mMl_ok_11 q h
  · exact mMl_ok_12 q h
  · exact mMl_ok_13 q h
  · exact mMl_ok_14 q h
  · exact mMl_ok_15 q h
  · exact mMl_ok_16 q h
  · exact mMl_ok_17 q h
  · exact mMl_ok_18 q h
  · exact mMl_ok_19 q h
  · exact mMl_ok_20 q h
  · exact mMl_ok_21 q h
  · exact mMl_ok_22 q h
  · exact mMl_ok_23 q h
  · exact mMl_ok_24 q h
  · exact mMl_ok_25 q h
  · exact mMl_ok_26 q h
  · exact mMl_ok_27 q h
  · exact mMl_ok_28 q h
  · exact mMl_ok_29 q h
  · exact mMl_ok_30 q h
  · exact mMl_ok_31 q h
  · exact mMl_ok_32 q h
  · exact mMl_ok_33 q h
  · exact mMl_ok_34 q h
  · exact mMl_ok_35 q h
  · exact mMl_ok_36 q h
  · exact mMl_ok_37 q h
  · exact mMl_ok_38 q h
  · exact mMl_ok_39 q h
  · exact mMl_ok_40 q h
  · exact mMl_ok_41 q h
  · exact mMl_ok_42 q h
  · exact mMl_ok_43 q h
  · exact mMl_ok_44 q h
  · exact mMl_ok_45 q h
  · exact mMl_ok_46 q h
  · exact mMl_ok_47 q h
theorem hMm_all : ∀ y, y < 283 → mMok (mM y) = true := by
  intro y hy
  have hl : mMl.length = 283 := by decide +kernel
  have h : mM y = mMl[y]'(by omega) := by
    unfold mM
    rw [List.getD_eq_getElem?_getD, List.getElem?_eq_getElem (by omega)]
    rfl
  rw [h]
  exact mMl_mem _ (List.getElem_mem _)
theorem whole_start {p : Program} {e : Env} {s : State} {m : MethodId} {below : List Frame} {meth : Method} {c : Code} (l : Launch) (hflags : l.flags = flags0) {b L : Nat} {xs : Nat → Int32} (hL : L ≤ 260) (C0 : lw_At p s m meth c b L xs) : W p l e room_1 s m #[Value.ref b] below meth c s.heap [] 0 0 (lw_Z below #[Value.ref b] s) (entryFrame m ([Value.ref b] : List Value).toArray 16) := mStart l hflags hOk_all hMm_all C0 (nAll hL)
