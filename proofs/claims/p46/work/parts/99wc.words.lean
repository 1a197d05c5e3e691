theorem mMl_ok_16 : ∀ q ∈ mMl_16, mMok q = true := by decide +kernel
theorem mMl_ok_17 : ∀ q ∈ mMl_17, mMok q = true := by decide +kernel
theorem mMl_ok_18 : ∀ q ∈ mMl_18, mMok q = true := by decide +kernel
theorem mMl_ok_19 : ∀ q ∈ mMl_19, mMok q = true := by decide +kernel
theorem mMl_ok_20 : ∀ q ∈ mMl_20, mMok q = true := by decide +kernel
theorem mMl_ok_21 : ∀ q ∈ mMl_21, mMok q = true := by decide +kernel
theorem mMl_ok_22 : ∀ q ∈ mMl_22, mMok q = true := by decide +kernel
theorem mMl_ok_23 : ∀ q ∈ mMl_23, mMok q = true := by decide +kernel
