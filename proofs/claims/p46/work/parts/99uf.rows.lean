/-! ===== rows of the program checked ===== -/
theorem mOk_119 : mOkR 119 0 56 = true := by decide +kernel
theorem mOk_120 : mOkR 120 0 131 = true := by decide +kernel
theorem mOk_121 : mOkR 121 0 95 = true := by decide +kernel
theorem mOk_122 : mOkR 122 0 100 = true := by decide +kernel
theorem mOk_123 : mOkR 123 0 101 = true := by decide +kernel
theorem mOk_124 : mOkR 124 0 90 = true := by decide +kernel
theorem mOk_125 : mOkR 125 0 69 = true := by decide +kernel
theorem mOk_126 : mOkR 126 0 94 = true := by decide +kernel
theorem mOk_127 : mOkR 127 0 19 = true := by decide +kernel
theorem mOk_128 : mOkR 128 0 72 = true := by decide +kernel
theorem mOk_129 : mOkR 129 0 78 = true := by decide +kernel
theorem mOk_130 : mOkR 130 0 39 = true := by decide +kernel
theorem mOk_131 : mOkR 131 0 44 = true := by decide +kernel
theorem mOk_132 : mOkR 132 0 46 = true := by decide +kernel
theorem mOk_133 : mOkR 133 0 55 = true := by decide +kernel
theorem mOk_134 : mOkR 134 0 66 = true := by decide +kernel
theorem mOk_135 : mOkR 135 0 35 = true := by decide +kernel
