/-! ===== rows of the program checked ===== -/
theorem mOk_7 : mOkR 7 0 269 = true := by decide +kernel
theorem mOk_9 : mOkR 9 0 485 = true := by decide +kernel
theorem mOk_42 : mOkR 42 0 25 = true := by decide +kernel
theorem mOk_43 : mOkR 43 0 15 = true := by decide +kernel
theorem mOk_44 : mOkR 44 0 56 = true := by decide +kernel
theorem mOk_45 : mOkR 45 0 25 = true := by decide +kernel
theorem mOk_46 : mOkR 46 0 33 = true := by decide +kernel
theorem mOk_47 : mOkR 47 0 34 = true := by decide +kernel
theorem mOk_48 : mOkR 48 0 85 = true := by decide +kernel
theorem mOk_49 : mOkR 49 0 53 = true := by decide +kernel
theorem mOk_50 : mOkR 50 0 15 = true := by decide +kernel
theorem mOk_51 : mOkR 51 0 33 = true := by decide +kernel
theorem mOk_52 : mOkR 52 0 40 = true := by decide +kernel
theorem mOk_53 : mOkR 53 0 24 = true := by decide +kernel
theorem mOk_54 : mOkR 54 0 24 = true := by decide +kernel
