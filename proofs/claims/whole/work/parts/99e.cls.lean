/-! ===== the classes: what the words say of each: made by wip/whole/gen/mk04.py ===== -/
abbrev mTG : List Jvm.Cond := lw_tbl.filter goodWord
theorem mW_mem {k : Nat} {w : Jvm.Cond} (h : mW k = some w) : w ∈ lw_tbl := by
  have h2 : w ∈ mWl (k / 1000) := List.mem_of_getElem? h
  unfold lw_tbl tables_1
  revert h2
  generalize k / 1000 = q
  intro h2
  unfold mWl at h2
  split at h2 <;> simp only [List.mem_append] <;> first | exact Or.inl h2 | exact absurd h2 List.not_mem_nil | (right; first | exact Or.inl h2 | (right; first | exact Or.inl h2 | (right; first | exact Or.inl h2 | (right; first | exact Or.inl h2 | (right; first | exact Or.inl h2 | (right; first | exact Or.inl h2 | (right; first | exact Or.inl h2 | (right; first | exact Or.inl h2 | exact Or.inr h2))))))))
theorem mTG_of {k : Nat} {w : Jvm.Cond} (h : mW k = some w) (hg : goodWord w = true) : w ∈ mTG := List.mem_filter.mpr ⟨mW_mem h, hg⟩
theorem mTG_list {ws : List Jvm.Cond} {pl : List Nat} (h : ws = pl.filterMap mW) (hg : ws.all goodWord = true) : ∀ w ∈ ws, w ∈ mTG := by
  intro w hw
  have h1 := List.all_eq_true.mp hg w hw
  rw [h] at hw
  obtain ⟨k, -, hk⟩ := List.mem_filterMap.mp hw
  exact mTG_of hk h1
/-- what is known of a class of ours -/
def mCk (ci : Nat) (q : vw_C) : Prop :=
  (∀ w ∈ u_ws q.1 q.2.1 q.2.2, w ∈ mTG) ∧ (∀ a, a < q.2.2 → ∀ b, b < q.2.2 → a ≠ b → (q.2.1 a).2.1 ≠ (q.2.1 b).2.1) ∧ (∃ ty : Nat → FieldType, (∀ k, k < q.2.2 → parseFieldDescriptor (q.2.1 k).2.2.1 = some (ty k)) ∧ ∀ j, j < q.2.2 → defaultValue (ty j) = vp_V ((mFk ci).map mDf) j) ∧ Cond.instantiable q.1 q.2.2 ∈ mTG ∧ Cond.initialized q.1 ∈ mTG ∧ (mFk ci).length = q.2.2
theorem mCk_0 : mCk 0 (RJx4a65c, TJx4a65c, 3) := ⟨mTG_list (pl := [1063, 1059, 1061]) (by decide +kernel) (by decide +kernel), nmJx4a65c, ⟨tyJx4a65c, tyJx4a65c_ok, by decide +kernel⟩, mTG_of (k := 1041) (by decide +kernel) rfl, mTG_of (k := 1004) (by decide +kernel) rfl, by decide +kernel⟩
theorem mCk_1 : mCk 1 (RX0, TX0, 4) := ⟨mTG_list (pl := [3010, 3012, 3014, 3016]) (by decide +kernel) (by decide +kernel), nmX0, ⟨tyX0, tyX0_ok, by decide +kernel⟩, mTG_of (k := 2234) (by decide +kernel) rfl, mTG_of (k := 1021) (by decide +kernel) rfl, by decide +kernel⟩
theorem mCk_2 : mCk 2 (RX1, TX1, 2) := ⟨mTG_list (pl := [1116, 1118]) (by decide +kernel) (by decide +kernel), nmX1, ⟨tyX1, tyX1_ok, by decide +kernel⟩, mTG_of (k := 1107) (by decide +kernel) rfl, mTG_of (k := 1006) (by decide +kernel) rfl, by decide +kernel⟩
theorem mCk_3 : mCk 3 (RX2, TX2, 8) := ⟨mTG_list (pl := [1090, 1092, 1094, 1096, 1098, 1100, 1102, 1104]) (by decide +kernel) (by decide +kernel), nmX2, ⟨tyX2, tyX2_ok, by decide +kernel⟩, mTG_of (k := 1066) (by decide +kernel) rfl, mTG_of (k := 1005) (by decide +kernel) rfl, by decide +kernel⟩
theorem mCk_4 : mCk 4 (RX3, TX3, 13) := ⟨mTG_list (pl := [2098, 2100, 2102, 2104, 2106, 2108, 2110, 2112, 2114, 2116, 2118, 2120, 2122]) (by decide +kernel) (by decide +kernel), nmX3, ⟨tyX3, tyX3_ok, by decide +kernel⟩, mTG_of (k := 2065) (by decide +kernel) rfl, mTG_of (k := 1015) (by decide +kernel) rfl, by decide +kernel⟩
theorem mCk_5 : mCk 5 (RX4, TX4, 3) := ⟨mTG_list (pl := [4122, 4124, 4126]) (by decide +kernel) (by decide +kernel), nmX4, ⟨tyX4, tyX4_ok, by decide +kernel⟩, mTG_of (k := 4112) (by decide +kernel) rfl, mTG_of (k := 1027) (by decide +kernel) rfl, by decide +kernel⟩
theorem mCk_6 : mCk 6 (RX5, TX5, 6) := ⟨mTG_list (pl := [3069, 3071, 3073, 3075, 3077, 3079]) (by decide +kernel) (by decide +kernel), nmX5, ⟨tyX5, tyX5_ok, by decide +kernel⟩, mTG_of (k := 3052) (by decide +kernel) rfl, mTG_of (k := 1023) (by decide +kernel) rfl, by decide +kernel⟩
theorem mCk_7 : mCk 7 (RX6, TX6, 18) := ⟨mTG_list (pl := [3181, 3183, 3185, 3187, 3189, 3191, 3193, 3195, 3197, 3199, 3201, 3203, 3205, 3207, 3209, 3211, 3213, 3215]) (by decide +kernel) (by decide +kernel), nmX6, ⟨tyX6, tyX6_ok, by decide +kernel⟩, mTG_of (k := 3046) (by decide +kernel) rfl, mTG_of (k := 1022) (by decide +kernel) rfl, by decide +kernel⟩
theorem mCk_8 : mCk 8 (RX7, TX7, 4) := ⟨mTG_list (pl := [4022, 4024, 4026, 4028]) (by decide +kernel) (by decide +kernel), nmX7, ⟨tyX7, tyX7_ok, by decide +kernel⟩, mTG_of (k := 4009) (by decide +kernel) rfl, mTG_of (k := 1025) (by decide +kernel) rfl, by decide +kernel⟩
theorem mCk_9 : mCk 9 (RX8, TX8, 10) := ⟨mTG_list (pl := [3120, 3122, 3124, 3126, 3128, 3130, 3132, 3134, 3136, 3138]) (by decide +kernel) (by decide +kernel), nmX8, ⟨tyX8, tyX8_ok, by decide +kernel⟩, mTG_of (k := 3083) (by decide +kernel) rfl, mTG_of (k := 1024) (by decide +kernel) rfl, by decide +kernel⟩
theorem mCk_10 : mCk 10 (RX9, TX9, 7) := ⟨mTG_list (pl := [4089, 4091, 4093, 4095, 4097, 4099, 4101]) (by decide +kernel) (by decide +kernel), nmX9, ⟨tyX9, tyX9_ok, by decide +kernel⟩, mTG_of (k := 4068) (by decide +kernel) rfl, mTG_of (k := 1026) (by decide +kernel) rfl, by decide +kernel⟩
theorem mCk_11 : mCk 11 (RX10, TX10, 10) := ⟨mTG_list (pl := [1131, 1133, 1135, 1137, 1139, 1141, 1143, 1145, 1147, 1149]) (by decide +kernel) (by decide +kernel), nmX10, ⟨tyX10, tyX10_ok, by decide +kernel⟩, mTG_of (k := 1029) (by decide +kernel) rfl, mTG_of (k := 1001) (by decide +kernel) rfl, by decide +kernel⟩
theorem mCk_12 : mCk 12 (RX11, TX11, 77) := ⟨mTG_list (pl := [6179, 6181, 6183, 6185, 6187, 6189, 6191, 6193, 6195, 6197, 6199, 6201, 6203, 6205, 6207, 6209, 6211, 6213, 6215, 6217, 6219, 6221, 6223, 6225, 6227, 6229, 6231, 6233, 6235, 6237, 6239, 7001, 7003, 7005, 7007, 7009, 7011, 7013, 7015, 7017, 7019, 7021, 7023, 7025, 7027, 7029, 7031, 7033, 7035, 7037, 7039, 7041, 7043, 7045, 7047, 7049, 7051, 7053, 7055, 7057, 7059, 7061, 7063, 7065, 7067, 7069, 7071, 7073, 7075, 7077, 7079, 7081, 7083, 7085, 7087, 7089, 7091]) (by decide +kernel) (by decide +kernel), nmX11, ⟨tyX11, tyX11_ok, by decide +kernel⟩, mTG_of (k := 6097) (by decide +kernel) rfl, mTG_of (k := 1007) (by decide +kernel) rfl, by decide +kernel⟩
theorem mCk_all {ci : Nat} {q : vw_C} (h : vwCl[ci]? = some q) : mCk ci q := by
  match ci, h with
  | 0, h => cases h; exact mCk_0
  | 1, h => cases h; exact mCk_1
  | 2, h => cases h; exact mCk_2
  | 3, h => cases h; exact mCk_3
  | 4, h => cases h; exact mCk_4
  | 5, h => cases h; exact mCk_5
  | 6, h => cases h; exact mCk_6
  | 7, h => cases h; exact mCk_7
  | 8, h => cases h; exact mCk_8
  | 9, h => cases h; exact mCk_9
  | 10, h => cases h; exact mCk_10
  | 11, h => cases h; exact mCk_11
  | 12, h => cases h; exact mCk_12
  | k + 13, h => simp [vwCl] at h
theorem mCn_of {ci : Nat} (h : ci < 13) : ∃ T N, vwCl[ci]? = some (mCn ci, T, N) := by
  match ci, h with
  | 0, _ => exact ⟨_, _, rfl⟩
  | 1, _ => exact ⟨_, _, rfl⟩
  | 2, _ => exact ⟨_, _, rfl⟩
  | 3, _ => exact ⟨_, _, rfl⟩
  | 4, _ => exact ⟨_, _, rfl⟩
  | 5, _ => exact ⟨_, _, rfl⟩
  | 6, _ => exact ⟨_, _, rfl⟩
  | 7, _ => exact ⟨_, _, rfl⟩
  | 8, _ => exact ⟨_, _, rfl⟩
  | 9, _ => exact ⟨_, _, rfl⟩
  | 10, _ => exact ⟨_, _, rfl⟩
  | 11, _ => exact ⟨_, _, rfl⟩
  | 12, _ => exact ⟨_, _, rfl⟩
  | k + 13, h => exact absurd h (by omega)
theorem mSame_w : Cond.sameField "java/util/ArrayList" "java/util/AbstractList" "modCount" "I" ∈ mTG := mTG_of (k := 1058) (by decide +kernel) rfl
theorem mConst_w : Cond.constant "jdk/internal/util/ArraysSupport" 200 2147483639 ∈ mTG := mTG_of (k := 2145) (by decide +kernel) rfl
theorem mArr_int : Cond.arrayClass .int ∈ mTG := mTG_of (k := 4129) (by decide +kernel) rfl
theorem mArr_boolean : Cond.arrayClass .boolean ∈ mTG := mTG_of (k := 7094) (by decide +kernel) rfl
theorem mArr_long : Cond.arrayClass .long ∈ mTG := mTG_of (k := 8218) (by decide +kernel) rfl
theorem mObj_i : Cond.instanceMethod Lib.objectInit ∈ mTG := mTG_of (k := 1034) (by decide +kernel) rfl
theorem mObj_c : Cond.code Lib.objectInit ⟨#[0xb1]⟩ 1 none ∈ mTG := mTG_of (k := 1035) (by decide +kernel) rfl
theorem mAcp_n : Cond.native arraycopyName ∈ mTG := mTG_of (k := 2183) (by decide +kernel) rfl
theorem mAcp_s : Cond.static arraycopyName ∈ mTG := mTG_of (k := 2182) (by decide +kernel) rfl
theorem mAcp_i : Cond.initialized "java/lang/System" ∈ mTG := mTG_of (k := 1018) (by decide +kernel) rfl
theorem mMax_s : Cond.static Lib.Math.max.name ∈ mTG := mTG_of (k := 2029) (by decide +kernel) rfl
theorem mMax_c : Cond.code Lib.Math.max.name Lib.Math.max.code 2 (some .int) ∈ mTG := mTG_of (k := 2030) (by decide +kernel) rfl
theorem mMin_s : Cond.static Lib.Math.min.name ∈ mTG := mTG_of (k := 2179) (by decide +kernel) rfl
theorem mMin_c : Cond.code Lib.Math.min.name Lib.Math.min.code 2 (some .int) ∈ mTG := mTG_of (k := 2180) (by decide +kernel) rfl
theorem mAbs_s : Cond.static Lib.Math.abs.name ∈ mTG := mTG_of (k := 5053) (by decide +kernel) rfl
theorem mAbs_c : Cond.code Lib.Math.abs.name Lib.Math.abs.code 1 (some .int) ∈ mTG := mTG_of (k := 5054) (by decide +kernel) rfl
theorem mMat_i : Cond.initialized "java/lang/Math" ∈ mTG := mTG_of (k := 1013) (by decide +kernel) rfl
theorem mGcl_n : Cond.native ⟨"java/lang/Object", "getClass", "()Ljava/lang/Class;"⟩ ∈ mTG := mTG_of (k := 2171) (by decide +kernel) rfl
theorem mGcl_i : Cond.instanceMethod ⟨"java/lang/Object", "getClass", "()Ljava/lang/Class;"⟩ ∈ mTG := mTG_of (k := 2153) (by decide +kernel) rfl
theorem mGcl_s : Cond.selects "[Ljava/lang/Object;" ⟨"java/lang/Object", "getClass", "()Ljava/lang/Class;"⟩ ⟨"java/lang/Object", "getClass", "()Ljava/lang/Class;"⟩ ∈ mTG := mTG_of (k := 8238) (by decide +kernel) rfl
