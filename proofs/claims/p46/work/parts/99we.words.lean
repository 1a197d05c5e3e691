theorem mMl_ok_32 : ∀ q ∈ mMl_32, mMok q = true := by decide +kernel
theorem mMl_ok_33 : ∀ q ∈ mMl_33, mMok q = true := by decide +kernel
theorem mMl_ok_34 : ∀ q ∈ mMl_34, mMok q = true := by decide +kernel
theorem mMl_ok_35 : ∀ q ∈ mMl_35, mMok q = true := by decide +kernel
theorem mMl_ok_36 : ∀ q ∈ mMl_36, mMok q = true := by decide +kernel
theorem mMl_ok_37 : ∀ q ∈ mMl_37, mMok q = true := by decide +kernel
theorem mMl_ok_38 : ∀ q ∈ mMl_38, mMok q = true := by decide +kernel
theorem mMl_ok_39 : ∀ q ∈ mMl_39, mMok q = true := by decide +kernel
