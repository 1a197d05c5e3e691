/-- what is asked of a method beside its code -/
def mMok2 (q : mMt) : Bool :=
  (decide (mW q.2.2.2.2.2.2.2.2.1 = some (if q.2.2.2.2.1 = 0 then .static q.1 else .instanceMethod q.1)) || decide (q.1.name = "law")) && decide (mW q.2.2.2.2.2.2.2.2.2.1 = some (.initialized q.1.cls)) && (decide (¬ q.2.2.2.2.1 = 1) || decide (mW q.2.2.2.2.2.2.2.2.2.2 = some (.selects q.1.cls q.1 q.1))) && plainFor q.1 && decide (q.1.cls ≠ "java/lang/invoke/MethodHandle") && decide (q.1.cls ≠ "java/lang/invoke/VarHandle") && decide ((parseMethodDescriptor q.1.desc).map (fun d => d.parameters.length) = some (if q.2.2.2.2.1 = 0 then q.2.2.2.2.2.1 else q.2.2.2.2.2.1 - 1)) && decide (q.2.2.2.2.1 = 2 ↔ q.1.name = "<init>")
theorem mMok_of (q : mMt) (h : mW q.2.2.2.2.2.2.2.1 = some (.code q.1 q.2.1 q.2.2.1 q.2.2.2.1) ∨ (q.1.cls = "RopewalkLaw" ∧ (q.1.name = "law" ∨ q.1.name = "does" ∨ q.1.name = "asks"))) (h2 : mMok2 q = true) : mMok q = true := by
  unfold mMok
  unfold mMok2 at h2
  rcases h with h | h
  · rw [decide_eq_true h, Bool.true_or, Bool.true_and]
    exact h2
  · rw [decide_eq_true h, Bool.or_true, Bool.true_and]
    exact h2
theorem mMok_r0 : mMok (yL_law, cL_law, 16, (some .boolean), 0, 1, 15, 9999, 9999, 1000, 9999) = true := mMok_of _ (Or.inr (by decide)) (by decide +kernel)
theorem mMok_r1 : mMok (yL_does, cL_does, 9, (some .int), 0, 8, 13, 2017, 2016, 1000, 9999) = true := mMok_of _ (Or.inr (by decide)) (by decide +kernel)
theorem mMok_r2 : mMok (yL_asks, cL_asks, 5, (some .int), 0, 4, 8, 5118, 5117, 1000, 9999) = true := mMok_of _ (Or.inr (by decide)) (by decide +kernel)
theorem mMok_r3 : mMok (yL_part, cL_part, 4, (some .int), 0, 3, 0, 2013, 2012, 1000, 9999) = true := mMok_of _ (Or.inl rfl) (by decide +kernel)
theorem mMok_r4 : mMok (yL_arePlaces, cL_arePlaces, 11, (some .boolean), 0, 6, 9, 5226, 5225, 1000, 9999) = true := mMok_of _ (Or.inl rfl) (by decide +kernel)
theorem mMok_r5 : mMok (yL_hasLane, cL_hasLane, 7, (some .boolean), 0, 5, 0, 5232, 5231, 1000, 9999) = true := mMok_of _ (Or.inl rfl) (by decide +kernel)
theorem mMl_ok_0 : ∀ q ∈ mMl_0, mMok q = true := by
  intro q hq
  simp only [mMl_0, List.mem_cons, List.not_mem_nil, or_false] at hq
  rcases hq with rfl | rfl | rfl | rfl | rfl | rfl
  · exact mMok_r0
  · exact mMok_r1
  · exact mMok_r2
  · exact mMok_r3
  · exact mMok_r4
  · exact mMok_r5
theorem mMok_r6 : mMok (yL_areScans, cL_areScans, 16, (some .boolean), 0, 5, 9, 5229, 5228, 1000, 9999) = true := mMok_of _ (Or.inl rfl) (by decide +kernel)
theorem mMok_r7 : mMok (yL_isForeseen, cL_isForeseen, 13, (some .boolean), 0, 5, 9, 5235, 5234, 1000, 9999) = true := mMok_of _ (Or.inl rfl) (by decide +kernel)
theorem mMok_r8 : mMok (yL_isNet, cL_isNet, 15, (some .boolean), 0, 9, 14, 5238, 5237, 1000, 9999) = true := mMok_of _ (Or.inl rfl) (by decide +kernel)
theorem mMok_r9 : mMok (yL_isParcel, cL_isParcel, 13, (some .boolean), 0, 4, 14, 6001, 6000, 1000, 9999) = true := mMok_of _ (Or.inl rfl) (by decide +kernel)
theorem mMok_r10 : mMok (yL_isChanged, cL_isChanged, 21, (some .boolean), 0, 8, 14, 6004, 6003, 1000, 9999) = true := mMok_of _ (Or.inl rfl) (by decide +kernel)
theorem mMok_r11 : mMok (yX0_init, cX0_init, 3, none, 2, 3, 1, 2226, 2225, 1020, 9999) = true := by decide +kernel
theorem mMl_ok_1 : ∀ q ∈ mMl_1, mMok q = true := by
  intro q hq
  simp only [mMl_1, List.mem_cons, List.not_mem_nil, or_false] at hq
  rcases hq with rfl | rfl | rfl | rfl | rfl | rfl
  · exact mMok_r6
  · exact mMok_r7
  · exact mMok_r8
  · exact mMok_r9
  · exact mMok_r10
  · exact mMok_r11
theorem mMl_ok_2 : ∀ q ∈ mMl_2, mMok q = true := by decide +kernel
theorem mMl_ok_3 : ∀ q ∈ mMl_3, mMok q = true := by decide +kernel
theorem mMl_ok_4 : ∀ q ∈ mMl_4, mMok q = true := by decide +kernel
theorem mMl_ok_5 : ∀ q ∈ mMl_5, mMok q = true := by decide +kernel
theorem mMl_ok_6 : ∀ q ∈ mMl_6, mMok q = true := by decide +kernel
theorem mMl_ok_7 : ∀ q ∈ mMl_7, mMok q = true := by decide +kernel
