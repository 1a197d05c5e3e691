theorem mMl_ok_40 : ∀ q ∈ mMl_40, mMok q = true := by decide +kernel
theorem mMl_ok_41 : ∀ q ∈ mMl_41, mMok q = true := by decide +kernel
theorem mMl_ok_42 : ∀ q ∈ mMl_42, mMok q = true := by decide +kernel
theorem mMl_ok_43 : ∀ q ∈ mMl_43, mMok q = true := by decide +kernel
theorem mMl_ok_44 : ∀ q ∈ mMl_44, mMok q = true := by decide +kernel
theorem mMl_ok_45 : ∀ q ∈ mMl_45, mMok q = true := by decide +kernel
theorem mMl_ok_46 : ∀ q ∈ mMl_46, mMok q = true := by decide +kernel
theorem mMl_ok_47 : ∀ q ∈ mMl_47, mMok q = true := by decide +kernel
