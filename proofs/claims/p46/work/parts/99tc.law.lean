/-! ===== rows of the program checked ===== -/
theorem mOk_10_20 : mOkW 10 1280 (lwW 10 1280 80) 0 64 = true := by decide +kernel
theorem mOk_10_21 : mOkW 10 1344 (lwW 10 1344 80) 0 64 = true := by decide +kernel
theorem mOk_10_22 : mOkW 10 1408 (lwW 10 1408 80) 0 64 = true := by decide +kernel
