/-! ===== rows of the program checked ===== -/
theorem mOk_0_34 : mOkW 0 2176 (lwW 2176 80) 0 64 = true := by decide +kernel
theorem mOk_0_35 : mOkW 0 2240 (lwW 2240 80) 0 64 = true := by decide +kernel
theorem mOk_0_36 : mOkW 0 2304 (lwW 2304 80) 0 64 = true := by decide +kernel
theorem mOk_0_37 : mOkW 0 2368 (lwW 2368 80) 0 64 = true := by decide +kernel
theorem mOk_0_38 : mOkW 0 2432 (lwW 2432 80) 0 64 = true := by decide +kernel
theorem mOk_0_39 : mOkW 0 2496 (lwW 2496 80) 0 64 = true := by decide +kernel
theorem mOk_0_40 : mOkW 0 2560 (lwW 2560 80) 0 64 = true := by decide +kernel
theorem mOk_0_41 : mOkW 0 2624 (lwW 2624 80) 0 64 = true := by decide +kernel
theorem mOk_0_42 : mOkW 0 2688 (lwW 2688 80) 0 64 = true := by decide +kernel
theorem mOk_0_43 : mOkW 0 2752 (lwW 2752 80) 0 64 = true := by decide +kernel
theorem mOk_0_44 : mOkW 0 2816 (lwW 2816 80) 0 64 = true := by decide +kernel
theorem mOk_0_45 : mOkW 0 2880 (lwW 2880 80) 0 64 = true := by decide +kernel
theorem mOk_0_46 : mOkW 0 2944 (lwW 2944 80) 0 64 = true := by decide +kernel
theorem mOk_0_47 : mOkW 0 3008 (lwW 3008 80) 0 64 = true := by decide +kernel
theorem mOk_0_48 : mOkW 0 3072 (lwW 3072 80) 0 64 = true := by decide +kernel
theorem mOk_0_49 : mOkW 0 3136 (lwW 3136 80) 0 64 = true := by decide +kernel
theorem mOk_0_50 : mOkW 0 3200 (lwW 3200 80) 0 64 = true := by decide +kernel
