/-! ===== the classes: what the words say of each: made by wip/whole/gen/mk04.py ===== -/
abbrev mTG : List Jvm.Cond := lw_tbl.filter goodWord
theorem mW_mem {k : Nat} {w : Jvm.Cond} (h : mW k = some w) : w ∈ lw_tbl := by
  have h2 : w ∈ mWl (k / 1000) := List.mem_of_getElem? h
  unfold lw_tbl tables_1
  revert h2
  generalize k / 1000 = q
  intro h2
  unfold mWl at h2
  split at h2 <;> simp only [List.mem_append] <;> first | exact absurd h2 List.not_mem_nil | exact Or.inl h2 | (right; first | exact Or.inl h2 | (right; first | exact Or.inl h2 | (right; first | exact Or.inl h2 | (right; first | exact Or.inl h2 | (right; first | exact Or.inl h2 | exact Or.inr h2)))))
theorem mTG_of {k : Nat} {w : Jvm.Cond} (h : mW k = some w) (hg : goodWord w = true) : w ∈ mTG := List.mem_filter.mpr ⟨mW_mem h, hg⟩
theorem mTG_list {ws : List Jvm.Cond} {pl : List Nat} (h : ws = pl.filterMap mW) (hg : ws.all goodWord = true) : ∀ w ∈ ws, w ∈ mTG := by
  intro w hw
  have h1 := List.all_eq_true.mp hg w hw
  rw [h] at hw
  obtain ⟨k, -, hk⟩ := List.mem_filterMap.mp hw
  exact mTG_of hk h1
/-- what is known of a class of ours -/
def mCk (ci : Nat) (q : vw_C) : Prop :=
  (∀ w ∈ u_ws q.1 q.2.1 q.2.2, w ∈ mTG) ∧ (∀ a, a < q.2.2 → ∀ b, b < q.2.2 → a ≠ b → (q.2.1 a).2.1 ≠ (q.2.1 b).2.1) ∧ (∃ ty : Nat → FieldType, (∀ k, k < q.2.2 → parseFieldDescriptor (q.2.1 k).2.2.1 = some (ty k)) ∧ ∀ j, j < q.2.2 → defaultValue (ty j) = vp_V ((mFk ci).map mDf) j) ∧ Cond.instantiable q.1 q.2.2 ∈ mTG ∧ Cond.initialized q.1 ∈ mTG ∧ (mFk ci).length = q.2.2
theorem mCk_0 : mCk 0 (RJx4a65c, TJx4a65c, 3) := ⟨mTG_list (pl := [1062, 1058, 1060]) (by decide +kernel) (by decide +kernel), nmJx4a65c, ⟨tyJx4a65c, tyJx4a65c_ok, by decide +kernel⟩, mTG_of (k := 1040) (by decide +kernel) rfl, mTG_of (k := 1004) (by decide +kernel) rfl, by decide +kernel⟩
theorem mCk_1 : mCk 1 (RX0, TX0, 4) := ⟨mTG_list (pl := [2239, 3001, 3003, 3005]) (by decide +kernel) (by decide +kernel), nmX0, ⟨tyX0, tyX0_ok, by decide +kernel⟩, mTG_of (k := 2223) (by decide +kernel) rfl, mTG_of (k := 1020) (by decide +kernel) rfl, by decide +kernel⟩
theorem mCk_2 : mCk 2 (RX1, TX1, 2) := ⟨mTG_list (pl := [1115, 1117]) (by decide +kernel) (by decide +kernel), nmX1, ⟨tyX1, tyX1_ok, by decide +kernel⟩, mTG_of (k := 1106) (by decide +kernel) rfl, mTG_of (k := 1006) (by decide +kernel) rfl, by decide +kernel⟩
theorem mCk_3 : mCk 3 (RX2, TX2, 8) := ⟨mTG_list (pl := [1089, 1091, 1093, 1095, 1097, 1099, 1101, 1103]) (by decide +kernel) (by decide +kernel), nmX2, ⟨tyX2, tyX2_ok, by decide +kernel⟩, mTG_of (k := 1065) (by decide +kernel) rfl, mTG_of (k := 1005) (by decide +kernel) rfl, by decide +kernel⟩
theorem mCk_4 : mCk 4 (RX3, TX3, 13) := ⟨mTG_list (pl := [2111, 2113, 2115, 2117, 2119, 2121, 2123, 2125, 2127, 2129, 2131, 2133, 2135]) (by decide +kernel) (by decide +kernel), nmX3, ⟨tyX3, tyX3_ok, by decide +kernel⟩, mTG_of (k := 2078) (by decide +kernel) rfl, mTG_of (k := 1016) (by decide +kernel) rfl, by decide +kernel⟩
theorem mCk_5 : mCk 5 (RX4, TX4, 3) := ⟨mTG_list (pl := [4089, 4091, 4093]) (by decide +kernel) (by decide +kernel), nmX4, ⟨tyX4, tyX4_ok, by decide +kernel⟩, mTG_of (k := 4079) (by decide +kernel) rfl, mTG_of (k := 1026) (by decide +kernel) rfl, by decide +kernel⟩
theorem mCk_6 : mCk 6 (RX5, TX5, 6) := ⟨mTG_list (pl := [3051, 3053, 3055, 3057, 3059, 3061]) (by decide +kernel) (by decide +kernel), nmX5, ⟨tyX5, tyX5_ok, by decide +kernel⟩, mTG_of (k := 3034) (by decide +kernel) rfl, mTG_of (k := 1022) (by decide +kernel) rfl, by decide +kernel⟩
theorem mCk_7 : mCk 7 (RX6, TX6, 18) := ⟨mTG_list (pl := [3163, 3165, 3167, 3169, 3171, 3173, 3175, 3177, 3179, 3181, 3183, 3185, 3187, 3189, 3191, 3193, 3195, 3197]) (by decide +kernel) (by decide +kernel), nmX6, ⟨tyX6, tyX6_ok, by decide +kernel⟩, mTG_of (k := 3028) (by decide +kernel) rfl, mTG_of (k := 1021) (by decide +kernel) rfl, by decide +kernel⟩
theorem mCk_8 : mCk 8 (RX7, TX7, 4) := ⟨mTG_list (pl := [4004, 4006, 4008, 4010]) (by decide +kernel) (by decide +kernel), nmX7, ⟨tyX7, tyX7_ok, by decide +kernel⟩, mTG_of (k := 3231) (by decide +kernel) rfl, mTG_of (k := 1024) (by decide +kernel) rfl, by decide +kernel⟩
theorem mCk_9 : mCk 9 (RX8, TX8, 10) := ⟨mTG_list (pl := [3102, 3104, 3106, 3108, 3110, 3112, 3114, 3116, 3118, 3120]) (by decide +kernel) (by decide +kernel), nmX8, ⟨tyX8, tyX8_ok, by decide +kernel⟩, mTG_of (k := 3065) (by decide +kernel) rfl, mTG_of (k := 1023) (by decide +kernel) rfl, by decide +kernel⟩
theorem mCk_10 : mCk 10 (RX9, TX9, 7) := ⟨mTG_list (pl := [4059, 4061, 4063, 4065, 4067, 4069, 4071]) (by decide +kernel) (by decide +kernel), nmX9, ⟨tyX9, tyX9_ok, by decide +kernel⟩, mTG_of (k := 4038) (by decide +kernel) rfl, mTG_of (k := 1025) (by decide +kernel) rfl, by decide +kernel⟩
theorem mCk_11 : mCk 11 (RX10, TX10, 10) := ⟨mTG_list (pl := [1130, 1132, 1134, 1136, 1138, 1140, 1142, 1144, 1146, 1148]) (by decide +kernel) (by decide +kernel), nmX10, ⟨tyX10, tyX10_ok, by decide +kernel⟩, mTG_of (k := 1028) (by decide +kernel) rfl, mTG_of (k := 1001) (by decide +kernel) rfl, by decide +kernel⟩
theorem mCk_all {ci : Nat} {q : vw_C} (h : vwCl[ci]? = some q) : mCk ci q := by
  match ci, h with
  | 0, h => cases h; exact mCk_0
  | 1, h => cases h; exact mCk_1
  | 2, h => cases h; exact mCk_2
  | 3, h => cases h; exact mCk_3
  | 4, h => cases h; exact mCk_4
  | 5, h => cases h; exact mCk_5
  | 6, h => cases h; exact mCk_6
  | 7, h => cases h; exact mCk_7
  | 8, h => cases h; exact mCk_8
  | 9, h => cases h; exact mCk_9
  | 10, h => cases h; exact mCk_10
  | 11, h => cases h; exact mCk_11
  | k + 12, h => simp [vwCl] at h
theorem mCn_of {ci : Nat} (h : ci < 12) : ∃ T N, vwCl[ci]? = some (mCn ci, T, N) := by
  match ci, h with
  | 0, _ => exact ⟨_, _, rfl⟩
  | 1, _ => exact ⟨_, _, rfl⟩
  | 2, _ => exact ⟨_, _, rfl⟩
  | 3, _ => exact ⟨_, _, rfl⟩
  | 4, _ => exact ⟨_, _, rfl⟩
  | 5, _ => exact ⟨_, _, rfl⟩
  | 6, _ => exact ⟨_, _, rfl⟩
  | 7, _ => exact ⟨_, _, rfl⟩
  | 8, _ => exact ⟨_, _, rfl⟩
  | 9, _ => exact ⟨_, _, rfl⟩
  | 10, _ => exact ⟨_, _, rfl⟩
  | 11, _ => exact ⟨_, _, rfl⟩
  | k + 12, h => exact absurd h (by omega)
theorem mSame_w : Cond.sameField "java/util/ArrayList" "java/util/AbstractList" "modCount" "I" ∈ mTG := mTG_of (k := 1057) (by decide +kernel) rfl
theorem mConst_w : Cond.constant "jdk/internal/util/ArraysSupport" 200 2147483639 ∈ mTG := mTG_of (k := 2158) (by decide +kernel) rfl
theorem mArr_int : Cond.arrayClass .int ∈ mTG := mTG_of (k := 4096) (by decide +kernel) rfl
theorem mObj_i : Cond.instanceMethod Lib.objectInit ∈ mTG := mTG_of (k := 1033) (by decide +kernel) rfl
theorem mObj_c : Cond.code Lib.objectInit ⟨#[0xb1]⟩ 1 none ∈ mTG := mTG_of (k := 1034) (by decide +kernel) rfl
theorem mAcp_n : Cond.native arraycopyName ∈ mTG := mTG_of (k := 2195) (by decide +kernel) rfl
theorem mAcp_s : Cond.static arraycopyName ∈ mTG := mTG_of (k := 2194) (by decide +kernel) rfl
theorem mAcp_i : Cond.initialized "java/lang/System" ∈ mTG := mTG_of (k := 1019) (by decide +kernel) rfl
theorem mMax_s : Cond.static Lib.Math.max.name ∈ mTG := mTG_of (k := 2049) (by decide +kernel) rfl
theorem mMax_c : Cond.code Lib.Math.max.name Lib.Math.max.code 2 (some .int) ∈ mTG := mTG_of (k := 2050) (by decide +kernel) rfl
theorem mMin_s : Cond.static Lib.Math.min.name ∈ mTG := mTG_of (k := 2191) (by decide +kernel) rfl
theorem mMin_c : Cond.code Lib.Math.min.name Lib.Math.min.code 2 (some .int) ∈ mTG := mTG_of (k := 2192) (by decide +kernel) rfl
theorem mAbs_s : Cond.static Lib.Math.abs.name ∈ mTG := mTG_of (k := 5017) (by decide +kernel) rfl
theorem mAbs_c : Cond.code Lib.Math.abs.name Lib.Math.abs.code 1 (some .int) ∈ mTG := mTG_of (k := 5018) (by decide +kernel) rfl
theorem mMat_i : Cond.initialized "java/lang/Math" ∈ mTG := mTG_of (k := 1014) (by decide +kernel) rfl
theorem mGcl_n : Cond.native ⟨"java/lang/Object", "getClass", "()Ljava/lang/Class;"⟩ ∈ mTG := mTG_of (k := 2183) (by decide +kernel) rfl
theorem mGcl_i : Cond.instanceMethod ⟨"java/lang/Object", "getClass", "()Ljava/lang/Class;"⟩ ∈ mTG := mTG_of (k := 2166) (by decide +kernel) rfl
theorem mGcl_s : Cond.selects "[Ljava/lang/Object;" ⟨"java/lang/Object", "getClass", "()Ljava/lang/Class;"⟩ ⟨"java/lang/Object", "getClass", "()Ljava/lang/Class;"⟩ ∈ mTG := mTG_of (k := 6025) (by decide +kernel) rfl
theorem mKon_3 : Cond.constant "RopewalkLaw" (mKi 3) (mKv 3) ∈ mTG := mTG_of (k := 2014) (by decide +kernel) rfl
theorem mKon_4 : Cond.constant "RopewalkLaw" (mKi 4) (mKv 4) ∈ mTG := mTG_of (k := 5113) (by decide +kernel) rfl
theorem mKon_5 : Cond.constant "RopewalkLaw" (mKi 5) (mKv 5) ∈ mTG := mTG_of (k := 5114) (by decide +kernel) rfl
theorem mKon_6 : Cond.constant "RopewalkLaw" (mKi 6) (mKv 6) ∈ mTG := mTG_of (k := 5115) (by decide +kernel) rfl
theorem mKon_7 : Cond.constant "RopewalkLaw" (mKi 7) (mKv 7) ∈ mTG := mTG_of (k := 6005) (by decide +kernel) rfl
theorem mKon_8 : Cond.constant "RopewalkLaw" (mKi 8) (mKv 8) ∈ mTG := mTG_of (k := 6006) (by decide +kernel) rfl
theorem mKon_w {k : Nat} (h : 3 ≤ k) (h9 : k < 9) : Cond.constant "RopewalkLaw" (mKi k) (mKv k) ∈ mTG := by
  obtain rfl | rfl | rfl | rfl | rfl | rfl : k = 3 ∨ k = 4 ∨ k = 5 ∨ k = 6 ∨ k = 7 ∨ k = 8 := by omega
  · exact mKon_3
  · exact mKon_4
  · exact mKon_5
  · exact mKon_6
  · exact mKon_7
  · exact mKon_8
