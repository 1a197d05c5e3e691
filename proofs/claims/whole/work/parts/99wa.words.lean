theorem mMl_ok_0 : ∀ q ∈ mMl_0, mMok q = true := by decide +kernel
theorem mMl_ok_1 : ∀ q ∈ mMl_1, mMok q = true := by decide +kernel
theorem mMl_ok_2 : ∀ q ∈ mMl_2, mMok q = true := by decide +kernel
theorem mMl_ok_3 : ∀ q ∈ mMl_3, mMok q = true := by decide +kernel
theorem mMl_ok_4 : ∀ q ∈ mMl_4, mMok q = true := by decide +kernel
theorem mMl_ok_5 : ∀ q ∈ mMl_5, mMok q = true := by decide +kernel
theorem mMl_ok_6 : ∀ q ∈ mMl_6, mMok q = true := by decide +kernel
theorem mMl_ok_7 : ∀ q ∈ mMl_7, mMok q = true := by decide +kernel
