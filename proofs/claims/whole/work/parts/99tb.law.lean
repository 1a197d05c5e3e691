/-! ===== rows of the program checked ===== -/
theorem mOk_0_17 : mOkW 0 1088 (lwW 1088 80) 0 64 = true := by decide +kernel
theorem mOk_0_18 : mOkW 0 1152 (lwW 1152 80) 0 64 = true := by decide +kernel
theorem mOk_0_19 : mOkW 0 1216 (lwW 1216 80) 0 64 = true := by decide +kernel
theorem mOk_0_20 : mOkW 0 1280 (lwW 1280 80) 0 64 = true := by decide +kernel
theorem mOk_0_21 : mOkW 0 1344 (lwW 1344 80) 0 64 = true := by decide +kernel
theorem mOk_0_22 : mOkW 0 1408 (lwW 1408 80) 0 64 = true := by decide +kernel
theorem mOk_0_23 : mOkW 0 1472 (lwW 1472 80) 0 64 = true := by decide +kernel
theorem mOk_0_24 : mOkW 0 1536 (lwW 1536 80) 0 64 = true := by decide +kernel
theorem mOk_0_25 : mOkW 0 1600 (lwW 1600 80) 0 64 = true := by decide +kernel
theorem mOk_0_26 : mOkW 0 1664 (lwW 1664 80) 0 64 = true := by decide +kernel
theorem mOk_0_27 : mOkW 0 1728 (lwW 1728 80) 0 64 = true := by decide +kernel
theorem mOk_0_28 : mOkW 0 1792 (lwW 1792 80) 0 64 = true := by decide +kernel
theorem mOk_0_29 : mOkW 0 1856 (lwW 1856 80) 0 64 = true := by decide +kernel
theorem mOk_0_30 : mOkW 0 1920 (lwW 1920 80) 0 64 = true := by decide +kernel
theorem mOk_0_31 : mOkW 0 1984 (lwW 1984 80) 0 64 = true := by decide +kernel
theorem mOk_0_32 : mOkW 0 2048 (lwW 2048 80) 0 64 = true := by decide +kernel
theorem mOk_0_33 : mOkW 0 2112 (lwW 2112 80) 0 64 = true := by decide +kernel
