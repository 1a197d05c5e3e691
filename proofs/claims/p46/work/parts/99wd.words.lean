theorem mMl_ok_24 : ∀ q ∈ mMl_24, mMok q = true := by decide +kernel
theorem mMl_ok_25 : ∀ q ∈ mMl_25, mMok q = true := by decide +kernel
theorem mMl_ok_26 : ∀ q ∈ mMl_26, mMok q = true := by decide +kernel
theorem mMl_ok_27 : ∀ q ∈ mMl_27, mMok q = true := by decide +kernel
theorem mMl_ok_28 : ∀ q ∈ mMl_28, mMok q = true := by decide +kernel
theorem mMl_ok_29 : ∀ q ∈ mMl_29, mMok q = true := by decide +kernel
theorem mMl_ok_30 : ∀ q ∈ mMl_30, mMok q = true := by decide +kernel
theorem mMl_ok_31 : ∀ q ∈ mMl_31, mMok q = true := by decide +kernel
