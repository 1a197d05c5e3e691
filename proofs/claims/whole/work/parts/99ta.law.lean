/-! ===== rows of the program checked ===== -/
theorem mOk_0_0 : mOkW 0 0 (lwW 0 512) 0 64 = true := by decide +kernel
theorem mOk_0_1 : mOkW 0 64 (lwW 64 80) 0 64 = true := by decide +kernel
theorem mOk_0_2 : mOkW 0 128 (lwW 128 80) 0 64 = true := by decide +kernel
theorem mOk_0_3 : mOkW 0 192 (lwW 192 80) 0 64 = true := by decide +kernel
theorem mOk_0_4 : mOkW 0 256 (lwW 256 80) 0 64 = true := by decide +kernel
theorem mOk_0_5 : mOkW 0 320 (lwW 320 80) 0 64 = true := by decide +kernel
theorem mOk_0_6 : mOkW 0 384 (lwW 384 80) 0 64 = true := by decide +kernel
theorem mOk_0_7 : mOkW 0 448 (lwW 448 80) 0 64 = true := by decide +kernel
theorem mOk_0_8 : mOkW 0 512 (lwW 512 80) 0 64 = true := by decide +kernel
theorem mOk_0_9 : mOkW 0 576 (lwW 576 80) 0 64 = true := by decide +kernel
theorem mOk_0_10 : mOkW 0 640 (lwW 640 80) 0 64 = true := by decide +kernel
theorem mOk_0_11 : mOkW 0 704 (lwW 704 80) 0 64 = true := by decide +kernel
theorem mOk_0_12 : mOkW 0 768 (lwW 768 80) 0 64 = true := by decide +kernel
theorem mOk_0_13 : mOkW 0 832 (lwW 832 80) 0 64 = true := by decide +kernel
theorem mOk_0_14 : mOkW 0 896 (lwW 896 80) 0 64 = true := by decide +kernel
theorem mOk_0_15 : mOkW 0 960 (lwW 960 80) 0 64 = true := by decide +kernel
theorem mOk_0_16 : mOkW 0 1024 (lwW 1024 80) 0 64 = true := by decide +kernel
