/-! ===== rows of the program checked ===== -/
theorem mOk_1 : mOkR 1 0 453 = true := by decide +kernel
theorem mOk_2 : mOkR 2 0 237 = true := by decide +kernel
theorem mOk_3 : mOkR 3 0 33 = true := by decide +kernel
theorem mOk_5 : mOkR 5 0 75 = true := by decide +kernel
theorem mOk_6 : mOkR 6 0 452 = true := by decide +kernel
