theorem mMl_ok_8 : ∀ q ∈ mMl_8, mMok q = true := by decide +kernel
theorem mMl_ok_9 : ∀ q ∈ mMl_9, mMok q = true := by decide +kernel
theorem mMl_ok_10 : ∀ q ∈ mMl_10, mMok q = true := by decide +kernel
theorem mMl_ok_11 : ∀ q ∈ mMl_11, mMok q = true := by decide +kernel
theorem mMl_ok_12 : ∀ q ∈ mMl_12, mMok q = true := by decide +kernel
theorem mMl_ok_13 : ∀ q ∈ mMl_13, mMok q = true := by decide +kernel
theorem mMl_ok_14 : ∀ q ∈ mMl_14, mMok q = true := by decide +kernel
theorem mMl_ok_15 : ∀ q ∈ mMl_15, mMok q = true := by decide +kernel
