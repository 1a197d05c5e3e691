/-! ===== at the start the memories are related: made by wip/whole/gen2/mk56.py ===== -/
def nI6 (fs fp : Nat → Int32) : mS := mPut (mAd 34 0) (.inr (0, 50, .inl fp)) (mPut (mAd 29 0) (.inr (0, 5, .inl fs)) nI5)
def nI7 (fs fp : Nat → Int32) : mS := mNew 2 (.inr (2, 1, .inr (.inl fun _ => 0))) 1 (nI6 fs fp)
def nS0 (fs fp : Nat → Int32) : nS := ((fun t _ j => if t = 21 ∧ j = 3 then 10 else 0, fun _ _ _ => 0, fun _ _ _ => none, fun _ => none, fun _ _ => [], fun _ => 0), fun t => if t = 29 then fs else if t = 34 then fp else fun _ => 0, 0, fun _ => 0)
section REL0
variable {xs : Nat → Int32} {nx : Nat} {fs fp : Nat → Int32}
theorem nCt0 {t : Nat} : nCt (fN (nS0 fs fp).1) t = nGp t - 100 := by
  unfold nCt
  cases h : Nat.ble 100 (nGp t) with
  | true => rfl
  | false =>
    show 0 = _
    have : ¬ 100 ≤ nGp t := fun z => by rw [Nat.ble_eq.mpr z] at h; cases h
    omega
theorem nTabC : ∀ c < 13, 1 ≤ c → nGp (nTg c) - 100 = 0 ∨ c = 2 ∨ c = 3 ∨ c = 11 ∨ c = 12 := by decide +kernel
theorem nTabA : ∀ t < 96, nAt t ≠ 9 → t = 7 ∨ t = 4 ∨ t = 2 ∨ t = 12 ∨ t = 13 ∨ (29 ≤ t ∧ nGp t = 101) := by decide +kernel
theorem nTabL : ∀ t < 96, nLt t ≠ 0 → nGp t - 100 = 0 ∨ t = 3 ∨ t = 14 ∨ t = 15 ∨ t = 16 ∨ t = 17 ∨ t = 18 ∨ t = 19 ∨ t = 20 := by decide +kernel
set_option maxRecDepth 100000 in
set_option maxHeartbeats 4000000 in
theorem nO_2_0 : (nI7 fs fp).1 (mAd 22 0) = some (.inl (2, nFs 2 0 (nS0 fs fp))) := rfl
set_option maxRecDepth 100000 in
set_option maxHeartbeats 4000000 in
theorem nO_2_1 : (nI7 fs fp).1 (mAd 22 1) = some (.inl (2, nFs 2 1 (nS0 fs fp))) := rfl
set_option maxRecDepth 100000 in
set_option maxHeartbeats 4000000 in
theorem nO_2_2 : (nI7 fs fp).1 (mAd 22 2) = some (.inl (2, nFs 2 2 (nS0 fs fp))) := rfl
set_option maxRecDepth 100000 in
set_option maxHeartbeats 4000000 in
theorem nO_2_3 : (nI7 fs fp).1 (mAd 22 3) = some (.inl (2, nFs 2 3 (nS0 fs fp))) := rfl
set_option maxRecDepth 100000 in
set_option maxHeartbeats 4000000 in
theorem nO_3_0 : (nI7 fs fp).1 (mAd 21 0) = some (.inl (3, nFs 3 0 (nS0 fs fp))) := rfl
set_option maxRecDepth 100000 in
set_option maxHeartbeats 4000000 in
theorem nO_3_1 : (nI7 fs fp).1 (mAd 21 1) = some (.inl (3, nFs 3 1 (nS0 fs fp))) := rfl
set_option maxRecDepth 100000 in
set_option maxHeartbeats 4000000 in
theorem nO_3_2 : (nI7 fs fp).1 (mAd 21 2) = some (.inl (3, nFs 3 2 (nS0 fs fp))) := rfl
set_option maxRecDepth 100000 in
set_option maxHeartbeats 4000000 in
theorem nO_3_3 : (nI7 fs fp).1 (mAd 21 3) = some (.inl (3, nFs 3 3 (nS0 fs fp))) := rfl
set_option maxRecDepth 100000 in
set_option maxHeartbeats 4000000 in
theorem nO_3_4 : (nI7 fs fp).1 (mAd 21 4) = some (.inl (3, nFs 3 4 (nS0 fs fp))) := rfl
set_option maxRecDepth 100000 in
set_option maxHeartbeats 4000000 in
theorem nO_11_0 : (nI7 fs fp).1 (mAd 0 0) = some (.inl (11, nFs 11 0 (nS0 fs fp))) := rfl
set_option maxRecDepth 100000 in
set_option maxHeartbeats 4000000 in
theorem nO_12_0 : (nI7 fs fp).1 (mAd 1 0) = some (.inl (12, nFs 12 0 (nS0 fs fp))) := rfl
set_option maxRecDepth 100000 in
set_option maxHeartbeats 4000000 in
theorem nA_4_0 : (nI7 fs fp).1 (mAd 4 0) = some (.inr (nRw (nS0 fs fp) 4 0)) := rfl
set_option maxRecDepth 100000 in
set_option maxHeartbeats 4000000 in
theorem nL_3_0 : (nI7 fs fp).1 (mAd 3 0) = some (.inl (0, [.int 0, .ref mEMP, .int 0])) := rfl
set_option maxRecDepth 100000 in
set_option maxHeartbeats 4000000 in
theorem nA_4_1 : (nI7 fs fp).1 (mAd 4 1) = some (.inr (nRw (nS0 fs fp) 4 1)) := rfl
set_option maxRecDepth 100000 in
set_option maxHeartbeats 4000000 in
theorem nL_3_1 : (nI7 fs fp).1 (mAd 3 1) = some (.inl (0, [.int 0, .ref mEMP, .int 0])) := rfl
set_option maxRecDepth 100000 in
set_option maxHeartbeats 4000000 in
theorem nA_4_2 : (nI7 fs fp).1 (mAd 4 2) = some (.inr (nRw (nS0 fs fp) 4 2)) := rfl
set_option maxRecDepth 100000 in
set_option maxHeartbeats 4000000 in
theorem nL_3_2 : (nI7 fs fp).1 (mAd 3 2) = some (.inl (0, [.int 0, .ref mEMP, .int 0])) := rfl
set_option maxRecDepth 100000 in
set_option maxHeartbeats 4000000 in
theorem nA_4_3 : (nI7 fs fp).1 (mAd 4 3) = some (.inr (nRw (nS0 fs fp) 4 3)) := rfl
set_option maxRecDepth 100000 in
set_option maxHeartbeats 4000000 in
theorem nL_3_3 : (nI7 fs fp).1 (mAd 3 3) = some (.inl (0, [.int 0, .ref mEMP, .int 0])) := rfl
set_option maxRecDepth 100000 in
set_option maxHeartbeats 4000000 in
theorem nA_4_4 : (nI7 fs fp).1 (mAd 4 4) = some (.inr (nRw (nS0 fs fp) 4 4)) := rfl
set_option maxRecDepth 100000 in
set_option maxHeartbeats 4000000 in
theorem nL_3_4 : (nI7 fs fp).1 (mAd 3 4) = some (.inl (0, [.int 0, .ref mEMP, .int 0])) := rfl
set_option maxRecDepth 100000 in
set_option maxHeartbeats 4000000 in
theorem nA_2_0 : (nI7 fs fp).1 (mAd 2 0) = some (.inr (nRw (nS0 fs fp) 2 0)) := rfl
set_option maxRecDepth 100000 in
set_option maxHeartbeats 4000000 in
theorem nA_12_0 : (nI7 fs fp).1 (mAd 12 0) = some (.inr (nRw (nS0 fs fp) 12 0)) := rfl
set_option maxRecDepth 100000 in
set_option maxHeartbeats 4000000 in
theorem nA_13_0 : (nI7 fs fp).1 (mAd 13 0) = some (.inr (nRw (nS0 fs fp) 13 0)) := rfl
set_option maxRecDepth 100000 in
set_option maxHeartbeats 4000000 in
theorem nA_29_0 : (nI7 fs fp).1 (mAd 29 0) = some (.inr (nRw (nS0 fs fp) 29 0)) := rfl
set_option maxRecDepth 100000 in
set_option maxHeartbeats 4000000 in
theorem nA_30_0 : (nI7 fs fp).1 (mAd 30 0) = some (.inr (nRw (nS0 fs fp) 30 0)) := rfl
set_option maxRecDepth 100000 in
set_option maxHeartbeats 4000000 in
theorem nA_31_0 : (nI7 fs fp).1 (mAd 31 0) = some (.inr (nRw (nS0 fs fp) 31 0)) := rfl
set_option maxRecDepth 100000 in
set_option maxHeartbeats 4000000 in
theorem nA_32_0 : (nI7 fs fp).1 (mAd 32 0) = some (.inr (nRw (nS0 fs fp) 32 0)) := rfl
set_option maxRecDepth 100000 in
set_option maxHeartbeats 4000000 in
theorem nA_33_0 : (nI7 fs fp).1 (mAd 33 0) = some (.inr (nRw (nS0 fs fp) 33 0)) := rfl
set_option maxRecDepth 100000 in
set_option maxHeartbeats 4000000 in
theorem nA_34_0 : (nI7 fs fp).1 (mAd 34 0) = some (.inr (nRw (nS0 fs fp) 34 0)) := rfl
set_option maxRecDepth 100000 in
set_option maxHeartbeats 4000000 in
theorem nA_35_0 : (nI7 fs fp).1 (mAd 35 0) = some (.inr (nRw (nS0 fs fp) 35 0)) := rfl
set_option maxRecDepth 100000 in
set_option maxHeartbeats 4000000 in
theorem nA_36_0 : (nI7 fs fp).1 (mAd 36 0) = some (.inr (nRw (nS0 fs fp) 36 0)) := rfl
set_option maxRecDepth 100000 in
set_option maxHeartbeats 4000000 in
theorem nA_37_0 : (nI7 fs fp).1 (mAd 37 0) = some (.inr (nRw (nS0 fs fp) 37 0)) := rfl
set_option maxRecDepth 100000 in
set_option maxHeartbeats 4000000 in
theorem nA_38_0 : (nI7 fs fp).1 (mAd 38 0) = some (.inr (nRw (nS0 fs fp) 38 0)) := rfl
set_option maxRecDepth 100000 in
set_option maxHeartbeats 4000000 in
theorem nA_39_0 : (nI7 fs fp).1 (mAd 39 0) = some (.inr (nRw (nS0 fs fp) 39 0)) := rfl
set_option maxRecDepth 100000 in
set_option maxHeartbeats 4000000 in
theorem nA_40_0 : (nI7 fs fp).1 (mAd 40 0) = some (.inr (nRw (nS0 fs fp) 40 0)) := rfl
set_option maxRecDepth 100000 in
set_option maxHeartbeats 4000000 in
theorem nA_41_0 : (nI7 fs fp).1 (mAd 41 0) = some (.inr (nRw (nS0 fs fp) 41 0)) := rfl
set_option maxRecDepth 100000 in
set_option maxHeartbeats 4000000 in
theorem nA_42_0 : (nI7 fs fp).1 (mAd 42 0) = some (.inr (nRw (nS0 fs fp) 42 0)) := rfl
set_option maxRecDepth 100000 in
set_option maxHeartbeats 4000000 in
theorem nA_43_0 : (nI7 fs fp).1 (mAd 43 0) = some (.inr (nRw (nS0 fs fp) 43 0)) := rfl
set_option maxRecDepth 100000 in
set_option maxHeartbeats 4000000 in
theorem nA_44_0 : (nI7 fs fp).1 (mAd 44 0) = some (.inr (nRw (nS0 fs fp) 44 0)) := rfl
set_option maxRecDepth 100000 in
set_option maxHeartbeats 4000000 in
theorem nA_45_0 : (nI7 fs fp).1 (mAd 45 0) = some (.inr (nRw (nS0 fs fp) 45 0)) := rfl
set_option maxRecDepth 100000 in
set_option maxHeartbeats 4000000 in
theorem nA_46_0 : (nI7 fs fp).1 (mAd 46 0) = some (.inr (nRw (nS0 fs fp) 46 0)) := rfl
set_option maxRecDepth 100000 in
set_option maxHeartbeats 4000000 in
theorem nA_47_0 : (nI7 fs fp).1 (mAd 47 0) = some (.inr (nRw (nS0 fs fp) 47 0)) := rfl
set_option maxRecDepth 100000 in
set_option maxHeartbeats 4000000 in
theorem nA_48_0 : (nI7 fs fp).1 (mAd 48 0) = some (.inr (nRw (nS0 fs fp) 48 0)) := rfl
set_option maxRecDepth 100000 in
set_option maxHeartbeats 4000000 in
theorem nA_49_0 : (nI7 fs fp).1 (mAd 49 0) = some (.inr (nRw (nS0 fs fp) 49 0)) := rfl
set_option maxRecDepth 100000 in
set_option maxHeartbeats 4000000 in
theorem nA_50_0 : (nI7 fs fp).1 (mAd 50 0) = some (.inr (nRw (nS0 fs fp) 50 0)) := rfl
set_option maxRecDepth 100000 in
set_option maxHeartbeats 4000000 in
theorem nA_51_0 : (nI7 fs fp).1 (mAd 51 0) = some (.inr (nRw (nS0 fs fp) 51 0)) := rfl
set_option maxRecDepth 100000 in
set_option maxHeartbeats 4000000 in
theorem nA_52_0 : (nI7 fs fp).1 (mAd 52 0) = some (.inr (nRw (nS0 fs fp) 52 0)) := rfl
set_option maxRecDepth 100000 in
set_option maxHeartbeats 4000000 in
theorem nA_53_0 : (nI7 fs fp).1 (mAd 53 0) = some (.inr (nRw (nS0 fs fp) 53 0)) := rfl
set_option maxRecDepth 100000 in
set_option maxHeartbeats 4000000 in
theorem nA_54_0 : (nI7 fs fp).1 (mAd 54 0) = some (.inr (nRw (nS0 fs fp) 54 0)) := rfl
set_option maxRecDepth 100000 in
set_option maxHeartbeats 4000000 in
theorem nA_55_0 : (nI7 fs fp).1 (mAd 55 0) = some (.inr (nRw (nS0 fs fp) 55 0)) := rfl
set_option maxRecDepth 100000 in
set_option maxHeartbeats 4000000 in
theorem nA_56_0 : (nI7 fs fp).1 (mAd 56 0) = some (.inr (nRw (nS0 fs fp) 56 0)) := rfl
set_option maxRecDepth 100000 in
set_option maxHeartbeats 4000000 in
theorem nA_57_0 : (nI7 fs fp).1 (mAd 57 0) = some (.inr (nRw (nS0 fs fp) 57 0)) := rfl
set_option maxRecDepth 100000 in
set_option maxHeartbeats 4000000 in
theorem nA_58_0 : (nI7 fs fp).1 (mAd 58 0) = some (.inr (nRw (nS0 fs fp) 58 0)) := rfl
set_option maxRecDepth 100000 in
set_option maxHeartbeats 4000000 in
theorem nA_59_0 : (nI7 fs fp).1 (mAd 59 0) = some (.inr (nRw (nS0 fs fp) 59 0)) := rfl
set_option maxRecDepth 100000 in
set_option maxHeartbeats 4000000 in
theorem nA_60_0 : (nI7 fs fp).1 (mAd 60 0) = some (.inr (nRw (nS0 fs fp) 60 0)) := rfl
set_option maxRecDepth 100000 in
set_option maxHeartbeats 4000000 in
theorem nA_61_0 : (nI7 fs fp).1 (mAd 61 0) = some (.inr (nRw (nS0 fs fp) 61 0)) := rfl
set_option maxRecDepth 100000 in
set_option maxHeartbeats 4000000 in
theorem nA_62_0 : (nI7 fs fp).1 (mAd 62 0) = some (.inr (nRw (nS0 fs fp) 62 0)) := rfl
set_option maxRecDepth 100000 in
set_option maxHeartbeats 4000000 in
theorem nA_63_0 : (nI7 fs fp).1 (mAd 63 0) = some (.inr (nRw (nS0 fs fp) 63 0)) := rfl
set_option maxRecDepth 100000 in
set_option maxHeartbeats 4000000 in
theorem nA_64_0 : (nI7 fs fp).1 (mAd 64 0) = some (.inr (nRw (nS0 fs fp) 64 0)) := rfl
set_option maxRecDepth 100000 in
set_option maxHeartbeats 4000000 in
theorem nA_65_0 : (nI7 fs fp).1 (mAd 65 0) = some (.inr (nRw (nS0 fs fp) 65 0)) := rfl
set_option maxRecDepth 100000 in
set_option maxHeartbeats 4000000 in
theorem nA_66_0 : (nI7 fs fp).1 (mAd 66 0) = some (.inr (nRw (nS0 fs fp) 66 0)) := rfl
set_option maxRecDepth 100000 in
set_option maxHeartbeats 4000000 in
theorem nA_67_0 : (nI7 fs fp).1 (mAd 67 0) = some (.inr (nRw (nS0 fs fp) 67 0)) := rfl
set_option maxRecDepth 100000 in
set_option maxHeartbeats 4000000 in
theorem nA_68_0 : (nI7 fs fp).1 (mAd 68 0) = some (.inr (nRw (nS0 fs fp) 68 0)) := rfl
set_option maxRecDepth 100000 in
set_option maxHeartbeats 4000000 in
theorem nA_69_0 : (nI7 fs fp).1 (mAd 69 0) = some (.inr (nRw (nS0 fs fp) 69 0)) := rfl
set_option maxRecDepth 100000 in
set_option maxHeartbeats 4000000 in
theorem nA_70_0 : (nI7 fs fp).1 (mAd 70 0) = some (.inr (nRw (nS0 fs fp) 70 0)) := rfl
set_option maxRecDepth 100000 in
set_option maxHeartbeats 4000000 in
theorem nA_71_0 : (nI7 fs fp).1 (mAd 71 0) = some (.inr (nRw (nS0 fs fp) 71 0)) := rfl
set_option maxRecDepth 100000 in
set_option maxHeartbeats 4000000 in
theorem nA_72_0 : (nI7 fs fp).1 (mAd 72 0) = some (.inr (nRw (nS0 fs fp) 72 0)) := rfl
set_option maxRecDepth 100000 in
set_option maxHeartbeats 4000000 in
theorem nA_73_0 : (nI7 fs fp).1 (mAd 73 0) = some (.inr (nRw (nS0 fs fp) 73 0)) := rfl
set_option maxRecDepth 100000 in
set_option maxHeartbeats 4000000 in
theorem nA_74_0 : (nI7 fs fp).1 (mAd 74 0) = some (.inr (nRw (nS0 fs fp) 74 0)) := rfl
set_option maxRecDepth 100000 in
set_option maxHeartbeats 4000000 in
theorem nA_75_0 : (nI7 fs fp).1 (mAd 75 0) = some (.inr (nRw (nS0 fs fp) 75 0)) := rfl
set_option maxRecDepth 100000 in
set_option maxHeartbeats 4000000 in
theorem nA_76_0 : (nI7 fs fp).1 (mAd 76 0) = some (.inr (nRw (nS0 fs fp) 76 0)) := rfl
set_option maxRecDepth 100000 in
set_option maxHeartbeats 4000000 in
theorem nA_77_0 : (nI7 fs fp).1 (mAd 77 0) = some (.inr (nRw (nS0 fs fp) 77 0)) := rfl
set_option maxRecDepth 100000 in
set_option maxHeartbeats 4000000 in
theorem nA_78_0 : (nI7 fs fp).1 (mAd 78 0) = some (.inr (nRw (nS0 fs fp) 78 0)) := rfl
set_option maxRecDepth 100000 in
set_option maxHeartbeats 4000000 in
theorem nA_79_0 : (nI7 fs fp).1 (mAd 79 0) = some (.inr (nRw (nS0 fs fp) 79 0)) := rfl
set_option maxRecDepth 100000 in
set_option maxHeartbeats 4000000 in
theorem nA_80_0 : (nI7 fs fp).1 (mAd 80 0) = some (.inr (nRw (nS0 fs fp) 80 0)) := rfl
set_option maxRecDepth 100000 in
set_option maxHeartbeats 4000000 in
theorem nA_81_0 : (nI7 fs fp).1 (mAd 81 0) = some (.inr (nRw (nS0 fs fp) 81 0)) := rfl
set_option maxRecDepth 100000 in
set_option maxHeartbeats 4000000 in
theorem nA_82_0 : (nI7 fs fp).1 (mAd 82 0) = some (.inr (nRw (nS0 fs fp) 82 0)) := rfl
set_option maxRecDepth 100000 in
set_option maxHeartbeats 4000000 in
theorem nA_83_0 : (nI7 fs fp).1 (mAd 83 0) = some (.inr (nRw (nS0 fs fp) 83 0)) := rfl
set_option maxRecDepth 100000 in
set_option maxHeartbeats 4000000 in
theorem nA_84_0 : (nI7 fs fp).1 (mAd 84 0) = some (.inr (nRw (nS0 fs fp) 84 0)) := rfl
set_option maxRecDepth 100000 in
set_option maxHeartbeats 4000000 in
theorem nA_85_0 : (nI7 fs fp).1 (mAd 85 0) = some (.inr (nRw (nS0 fs fp) 85 0)) := rfl
set_option maxRecDepth 100000 in
set_option maxHeartbeats 4000000 in
theorem nA_86_0 : (nI7 fs fp).1 (mAd 86 0) = some (.inr (nRw (nS0 fs fp) 86 0)) := rfl
set_option maxRecDepth 100000 in
set_option maxHeartbeats 4000000 in
theorem nA_87_0 : (nI7 fs fp).1 (mAd 87 0) = some (.inr (nRw (nS0 fs fp) 87 0)) := rfl
set_option maxRecDepth 100000 in
set_option maxHeartbeats 4000000 in
theorem nA_88_0 : (nI7 fs fp).1 (mAd 88 0) = some (.inr (nRw (nS0 fs fp) 88 0)) := rfl
set_option maxRecDepth 100000 in
set_option maxHeartbeats 4000000 in
theorem nA_89_0 : (nI7 fs fp).1 (mAd 89 0) = some (.inr (nRw (nS0 fs fp) 89 0)) := rfl
set_option maxRecDepth 100000 in
set_option maxHeartbeats 4000000 in
theorem nA_90_0 : (nI7 fs fp).1 (mAd 90 0) = some (.inr (nRw (nS0 fs fp) 90 0)) := rfl
set_option maxRecDepth 100000 in
set_option maxHeartbeats 4000000 in
theorem nA_91_0 : (nI7 fs fp).1 (mAd 91 0) = some (.inr (nRw (nS0 fs fp) 91 0)) := rfl
set_option maxRecDepth 100000 in
set_option maxHeartbeats 4000000 in
theorem nA_92_0 : (nI7 fs fp).1 (mAd 92 0) = some (.inr (nRw (nS0 fs fp) 92 0)) := rfl
set_option maxRecDepth 100000 in
set_option maxHeartbeats 4000000 in
theorem nA_93_0 : (nI7 fs fp).1 (mAd 93 0) = some (.inr (nRw (nS0 fs fp) 93 0)) := rfl
set_option maxRecDepth 100000 in
set_option maxHeartbeats 4000000 in
theorem nA_94_0 : (nI7 fs fp).1 (mAd 94 0) = some (.inr (nRw (nS0 fs fp) 94 0)) := rfl
set_option maxRecDepth 100000 in
set_option maxHeartbeats 4000000 in
theorem nA_95_0 : (nI7 fs fp).1 (mAd 95 0) = some (.inr (nRw (nS0 fs fp) 95 0)) := rfl
set_option maxRecDepth 100000 in
set_option maxHeartbeats 4000000 in
theorem nL_14_0 : (nI7 fs fp).1 (mAd 14 0) = some (.inl (0, [.int 0, .ref mEMP, .int 0])) := rfl
set_option maxRecDepth 100000 in
set_option maxHeartbeats 4000000 in
theorem nL_15_0 : (nI7 fs fp).1 (mAd 15 0) = some (.inl (0, [.int 0, .ref mEMP, .int 0])) := rfl
set_option maxRecDepth 100000 in
set_option maxHeartbeats 4000000 in
theorem nL_16_0 : (nI7 fs fp).1 (mAd 16 0) = some (.inl (0, [.int 0, .ref mEMP, .int 0])) := rfl
set_option maxRecDepth 100000 in
set_option maxHeartbeats 4000000 in
theorem nL_17_0 : (nI7 fs fp).1 (mAd 17 0) = some (.inl (0, [.int 0, .ref mEMP, .int 0])) := rfl
set_option maxRecDepth 100000 in
set_option maxHeartbeats 4000000 in
theorem nL_18_0 : (nI7 fs fp).1 (mAd 18 0) = some (.inl (0, [.int 0, .ref mEMP, .int 0])) := rfl
set_option maxRecDepth 100000 in
set_option maxHeartbeats 4000000 in
theorem nL_19_0 : (nI7 fs fp).1 (mAd 19 0) = some (.inl (0, [.int 0, .ref mEMP, .int 0])) := rfl
set_option maxRecDepth 100000 in
set_option maxHeartbeats 4000000 in
theorem nL_20_0 : (nI7 fs fp).1 (mAd 20 0) = some (.inl (0, [.int 0, .ref mEMP, .int 0])) := rfl
set_option maxRecDepth 100000 in
set_option maxHeartbeats 4000000 in
theorem nI7_c : ∀ t < 97, (nI7 fs fp).2.1 t = if t < 96 then nGp t - 100 else 0 := by
  have h : ∀ t < 97, nI5.2.1 t = if t = 2 then 0 else if t < 96 then nGp t - 100 else 0 := by decide +kernel
  intro t ht
  show va_up nI5.2.1 2 (nI5.2.1 2 + 1) t = _
  by_cases e : t = 2
  · subst e
    rw [va_up_self, h 2 (by omega)]
    rfl
  · rw [va_up_ne _ _ e, h t ht, if_neg e]
set_option maxRecDepth 100000 in
set_option maxHeartbeats 4000000 in
theorem nI7_1 : (nI7 fs fp).2.2.1 ≤ 1000 := by
  show nI5.2.2.1 + 1 ≤ 1000
  decide +kernel
set_option maxRecDepth 100000 in
set_option maxHeartbeats 4000000 in
theorem nI7_2 : (nI7 fs fp).2.2.2 ≤ 20000 := by
  show nI5.2.2.2 + 1 ≤ 20000
  decide +kernel
theorem nLo0 {σ : mS} {t k : Nat} (h : σ.1 (mAd t k) = some (.inl (0, [.int 0, .ref mEMP, .int 0]))) : nLo σ [] t k none := ⟨_, _, h, Nat.zero_le _, rfl, rfl⟩
theorem nTabS : ∀ c < 13, 1 ≤ c → ∀ j < 128, (nKd c j).1 = 3 → 0 < nGp (nTg c) - 100 → nGp (nKd c j).2 - 100 = nGp (nTg c) - 100 := by decide +kernel
theorem nTabX : ∀ c < 13, 1 ≤ c → ∀ j < 128, 0 < nGp (nTg c) - 100 → (nKd c j).1 ≠ 4 := by decide +kernel
theorem nTabN : ∀ c < 13, 1 ≤ c → ∀ j < 128, j < nFl c → (nKd c j).1 < 8 := by decide +kernel
theorem nA_all (t : Nat) (h1 : 29 ≤ t) (h2 : t < 96) : (nI7 fs fp).1 (mAd t 0) = some (.inr (nRw (nS0 fs fp) t 0)) := by
  by_cases e29 : t = 29
  · subst e29; exact nA_29_0
  by_cases e30 : t = 30
  · subst e30; exact nA_30_0
  by_cases e31 : t = 31
  · subst e31; exact nA_31_0
  by_cases e32 : t = 32
  · subst e32; exact nA_32_0
  by_cases e33 : t = 33
  · subst e33; exact nA_33_0
  by_cases e34 : t = 34
  · subst e34; exact nA_34_0
  by_cases e35 : t = 35
  · subst e35; exact nA_35_0
  by_cases e36 : t = 36
  · subst e36; exact nA_36_0
  by_cases e37 : t = 37
  · subst e37; exact nA_37_0
  by_cases e38 : t = 38
  · subst e38; exact nA_38_0
  by_cases e39 : t = 39
  · subst e39; exact nA_39_0
  by_cases e40 : t = 40
  · subst e40; exact nA_40_0
  by_cases e41 : t = 41
  · subst e41; exact nA_41_0
  by_cases e42 : t = 42
  · subst e42; exact nA_42_0
  by_cases e43 : t = 43
  · subst e43; exact nA_43_0
  by_cases e44 : t = 44
  · subst e44; exact nA_44_0
  by_cases e45 : t = 45
  · subst e45; exact nA_45_0
  by_cases e46 : t = 46
  · subst e46; exact nA_46_0
  by_cases e47 : t = 47
  · subst e47; exact nA_47_0
  by_cases e48 : t = 48
  · subst e48; exact nA_48_0
  by_cases e49 : t = 49
  · subst e49; exact nA_49_0
  by_cases e50 : t = 50
  · subst e50; exact nA_50_0
  by_cases e51 : t = 51
  · subst e51; exact nA_51_0
  by_cases e52 : t = 52
  · subst e52; exact nA_52_0
  by_cases e53 : t = 53
  · subst e53; exact nA_53_0
  by_cases e54 : t = 54
  · subst e54; exact nA_54_0
  by_cases e55 : t = 55
  · subst e55; exact nA_55_0
  by_cases e56 : t = 56
  · subst e56; exact nA_56_0
  by_cases e57 : t = 57
  · subst e57; exact nA_57_0
  by_cases e58 : t = 58
  · subst e58; exact nA_58_0
  by_cases e59 : t = 59
  · subst e59; exact nA_59_0
  by_cases e60 : t = 60
  · subst e60; exact nA_60_0
  by_cases e61 : t = 61
  · subst e61; exact nA_61_0
  by_cases e62 : t = 62
  · subst e62; exact nA_62_0
  by_cases e63 : t = 63
  · subst e63; exact nA_63_0
  by_cases e64 : t = 64
  · subst e64; exact nA_64_0
  by_cases e65 : t = 65
  · subst e65; exact nA_65_0
  by_cases e66 : t = 66
  · subst e66; exact nA_66_0
  by_cases e67 : t = 67
  · subst e67; exact nA_67_0
  by_cases e68 : t = 68
  · subst e68; exact nA_68_0
  by_cases e69 : t = 69
  · subst e69; exact nA_69_0
  by_cases e70 : t = 70
  · subst e70; exact nA_70_0
  by_cases e71 : t = 71
  · subst e71; exact nA_71_0
  by_cases e72 : t = 72
  · subst e72; exact nA_72_0
  by_cases e73 : t = 73
  · subst e73; exact nA_73_0
  by_cases e74 : t = 74
  · subst e74; exact nA_74_0
  by_cases e75 : t = 75
  · subst e75; exact nA_75_0
  by_cases e76 : t = 76
  · subst e76; exact nA_76_0
  by_cases e77 : t = 77
  · subst e77; exact nA_77_0
  by_cases e78 : t = 78
  · subst e78; exact nA_78_0
  by_cases e79 : t = 79
  · subst e79; exact nA_79_0
  by_cases e80 : t = 80
  · subst e80; exact nA_80_0
  by_cases e81 : t = 81
  · subst e81; exact nA_81_0
  by_cases e82 : t = 82
  · subst e82; exact nA_82_0
  by_cases e83 : t = 83
  · subst e83; exact nA_83_0
  by_cases e84 : t = 84
  · subst e84; exact nA_84_0
  by_cases e85 : t = 85
  · subst e85; exact nA_85_0
  by_cases e86 : t = 86
  · subst e86; exact nA_86_0
  by_cases e87 : t = 87
  · subst e87; exact nA_87_0
  by_cases e88 : t = 88
  · subst e88; exact nA_88_0
  by_cases e89 : t = 89
  · subst e89; exact nA_89_0
  by_cases e90 : t = 90
  · subst e90; exact nA_90_0
  by_cases e91 : t = 91
  · subst e91; exact nA_91_0
  by_cases e92 : t = 92
  · subst e92; exact nA_92_0
  by_cases e93 : t = 93
  · subst e93; exact nA_93_0
  by_cases e94 : t = 94
  · subst e94; exact nA_94_0
  by_cases e95 : t = 95
  · subst e95; exact nA_95_0
  omega
theorem nRel0 : nRel none (nS0 fs fp) (nI7 fs fp) (fun _ _ => none) := by
  refine ⟨fun c k h => ?_, fun t k h9 h => ?_, fun t k hl h => ?_, (fun t k t' k' j c c' _ _ _ _ e => by cases e), fun t h => ?_, (fun t h => by cases h), fun c k j h hj => ?_, (fun t k x _ _ hx => by cases hx), (fun k i l _ hl => by cases hl), ?_⟩
  · obtain ⟨h1, h13⟩ := nTg_lt h
    rw [nCt0] at h
    rcases nTabC c h13 h1 with e | rfl | rfl | rfl | rfl
    · omega
    · have h : k < 4 := h
      match k, h with
      | 0, _ => exact nO_2_0
      | 1, _ => exact nO_2_1
      | 2, _ => exact nO_2_2
      | 3, _ => exact nO_2_3
      | k + 4, h => omega
    · have h : k < 5 := h
      match k, h with
      | 0, _ => exact nO_3_0
      | 1, _ => exact nO_3_1
      | 2, _ => exact nO_3_2
      | 3, _ => exact nO_3_3
      | 4, _ => exact nO_3_4
      | k + 5, h => omega
    · have h : k < 1 := h
      match k, h with
      | 0, _ => exact nO_11_0
      | k + 1, h => omega
    · have h : k < 1 := h
      match k, h with
      | 0, _ => exact nO_12_0
      | k + 1, h => omega
  · have ht := nCt_lt h
    rw [nCt0] at h
    rcases nTabA t ht h9 with rfl | rfl | rfl | rfl | rfl | ⟨h29, hg⟩
    · exact absurd h (Nat.not_lt_zero k)
    · have h : k < 5 := h
      match k, h with
      | 0, _ => exact nA_4_0
      | 1, _ => exact nA_4_1
      | 2, _ => exact nA_4_2
      | 3, _ => exact nA_4_3
      | 4, _ => exact nA_4_4
      | k + 5, h => omega
    · have e : k = 0 := by have h : k < 1 := h; omega
      subst e
      exact nA_2_0
    · have e : k = 0 := by have h : k < 1 := h; omega
      subst e
      exact nA_12_0
    · have e : k = 0 := by have h : k < 1 := h; omega
      subst e
      exact nA_13_0
    · have e : k = 0 := by omega
      subst e
      exact nA_all t h29 ht
  · have ht := nCt_lt h
    rw [nCt0] at h
    refine nLo0 ?_
    rcases nTabL t ht hl with e | rfl | rfl | rfl | rfl | rfl | rfl | rfl | rfl
    · omega
    · have h : k < 5 := h
      match k, h with
      | 0, _ => exact nL_3_0
      | 1, _ => exact nL_3_1
      | 2, _ => exact nL_3_2
      | 3, _ => exact nL_3_3
      | 4, _ => exact nL_3_4
      | k + 5, h => omega
    · have e : k = 0 := by have h : k < 1 := h; omega
      subst e
      exact nL_14_0
    · have e : k = 0 := by have h : k < 1 := h; omega
      subst e
      exact nL_15_0
    · have e : k = 0 := by have h : k < 1 := h; omega
      subst e
      exact nL_16_0
    · have e : k = 0 := by have h : k < 1 := h; omega
      subst e
      exact nL_17_0
    · have e : k = 0 := by have h : k < 1 := h; omega
      subst e
      exact nL_18_0
    · have e : k = 0 := by have h : k < 1 := h; omega
      subst e
      exact nL_19_0
    · have e : k = 0 := by have h : k < 1 := h; omega
      subst e
      exact nL_20_0
  · rw [nI7_c t (by omega), if_pos h, nCt0, if_neg (by intro z; cases z), Nat.add_zero]
  · obtain ⟨h1, h13⟩ := nTg_lt h
    rw [nCt0] at h
    have hs : ∀ t, (nKd c j).1 = 3 → (nKd c j).2 = t → k < nCt (fN (nS0 fs fp).1) t := fun t e1 e2 => by
      rw [nCt0]
      have := nTabS c h13 h1 j (Nat.lt_of_lt_of_le hj (nTab1 c h13 h1).2.2.2.2.2) e1 (by omega)
      rw [← e2, this]
      exact h
    have hx : (nKd c j).1 ≠ 4 := nTabX c h13 h1 j (Nat.lt_of_lt_of_le hj (nTab1 c h13 h1).2.2.2.2.2) (by omega)
    have h9 := nTabN c h13 h1 j (Nat.lt_of_lt_of_le hj (nTab1 c h13 h1).2.2.2.2.2) hj
    unfold nGet
    split
    · trivial
    · trivial
    · trivial
    · trivial
    · rename_i t e
      have := hs t (by rw [e]) (by rw [e])
      cases hb : Nat.beq (nLt t) 0 with
      | true =>
        intro k' e'
        cases e'
        exact Or.inl ⟨this, Nat.eq_of_beq_eq_true hb⟩
      | false =>
        intro t' k' e'
        cases e'
        exact ⟨this, fun z => by rw [z] at hb; cases hb⟩
    · rename_i t e
      exact absurd (by rw [e]) hx
    · intro k' e'
      cases e'
    · intro t' k' e'
      cases e'
    · rename_i n0 n1 n2 n3 n4 n5 n6 n7
      exfalso
      generalize hq : nKd c j = q at *
      obtain ⟨a, b⟩ := q
      have h9 : a < 8 := h9
      match a, h9 with
      | 0, _ => exact n0 b rfl
      | 1, _ => exact n1 b rfl
      | 2, _ => exact n3 b rfl
      | 3, _ => exact n4 b rfl
      | 4, _ => exact n5 b rfl
      | 5, _ => exact n6 b rfl
      | 6, _ => exact n7 b rfl
      | 7, _ => exact n2 b rfl
      | a + 8, h => omega
  · unfold nCost
    refine ⟨Nat.le_trans nI7_1 ?_, Nat.le_trans nI7_2 ?_⟩ <;> omega
set_option maxRecDepth 100000 in
theorem nRuns (h : ∀ fs fp : Nat → Int32, (∀ j, j < 5 → fs j = 10) → (∀ j, j < 50 → fp j = -1) → ∃ (n : Nat) (s1 : nS), nX xs nx n 0 20 [some (vR 127 (some 1)), some (vR 0 (some 0)), some (vR 1 (some 0)), some (vR 2 (some 0)), none, none, none] [] (nS0 fs fp) = some (.inl (some (vI 1)), s1) ∧ fN s1.1 23 ≤ 12 ∧ fN s1.1 24 ≤ 20 ∧ fN s1.1 25 ≤ 400 ∧ fN s1.1 26 ≤ 40 ∧ fN s1.1 27 ≤ 6 ∧ fN s1.1 28 ≤ 5 ∧ s1.2.2.1 ≤ 100000) :
    ∃ (n : Nat) (σ1 : mS), mX mF mHs mFk xs nx n 0 0 (mL0 [.ref mSCR] 7) [] (fun _ => none, fun _ => 0, 0, 0) = some (.inl (some (.int 1)), σ1) ∧ σ1.2.2.1 ≤ 200000 ∧ σ1.2.2.2 ≤ 2000000 := by
  obtain ⟨fs, fp, hfs, hfp, hm⟩ := nI170 (xs := xs) (nx := nx)
  obtain ⟨n, s1, hr, b1, b2, b3, b4, b5, b6, b7⟩ := h fs fp hfs hfp
  have hL0 : ∀ v, some v ∈ [some (vR 127 (some 1)), some (vR 0 (some 0)), some (vR 1 (some 0)), some (vR 2 (some 0)), none, none, none] → vk (fN (nS0 fs fp).1) none v := by
    intro v hv
    simp only [List.mem_cons, Option.some.injEq, List.not_mem_nil, or_false, reduceCtorEq] at hv
    rcases hv with e | e | e | e <;> subst e <;> intro k e' <;> cases e'
    · exact Or.inr ⟨rfl, rfl⟩
    · exact Or.inl ⟨by rw [nCt0]; decide, by decide⟩
    · exact Or.inl ⟨by rw [nCt0]; decide, by decide⟩
    · exact Or.inl ⟨by rw [nCt0]; decide, by decide⟩
  obtain ⟨m, σ', g', hx, hrel, -, -⟩ := nSim (nLm_ok) (nCt_ok) n 0 20 _ [] (nS0 fs fp) _ s1 none (nI7 fs fp) (fun _ _ => none) hr ⟨nRel0, hL0, (fun v hv => by cases hv), rfl⟩
  have hk : mEv xs nx 0 20 [some (.ref mSCR), some (.ref (mAd 0 0)), some (.ref (mAd 1 0)), some (.ref (mAd 2 0)), none, none, none] [] (nI7 fs fp) (.inl (some (.int 1)), σ') := ⟨m, hx⟩
  have hgo : mEv xs nx 0 0 [some (.ref mSCR), none, none, none, none, none, none] [] (fun _ => none, fun _ => 0, 0, 0) (.inl (some (.int 1)), σ') := by
    refine ev_go rfl (σ' := nI0) rfl (ev_go rfl rfl (ev_call rfl rfl (v := none) nI77 (ev_go rfl rfl (ev_go rfl (σ' := nI4) rfl (ev_go rfl rfl (ev_call (v := none) rfl rfl hm (ev_go rfl rfl (ev_go rfl rfl (ev_go (σ' := nI7 fs fp) rfl rfl (ev_go rfl rfl hk))))))))))
  obtain ⟨n9, h9⟩ := hgo
  refine ⟨n9, σ', h9, ?_⟩
  obtain ⟨c1, c2⟩ := hrel.2.2.2.2.2.2.2.2.2
  have hsm : nSm (fN s1.1) g' ≤ 11 * 82 := by
    have hg : ∀ q, nGl q ≤ 11 := fun q => by
      rcases q with _ | ⟨a, c⟩
      · exact Nat.zero_le _
      · show nLv c ≤ 11
        unfold nLv
        split <;> omega
    have hrow : ∀ t, (((List.range (nCt (fN s1.1) t)).map fun k => nGl (g' t k)).sum) ≤ 11 * nCt (fN s1.1) t := fun t => by
      have : ∀ (l : List Nat) (f : Nat → Nat), (∀ x ∈ l, f x ≤ 11) → (l.map f).sum ≤ 11 * l.length := by
        intro l f
        induction l with
        | nil => intro _; exact Nat.zero_le _
        | cons a l ih =>
          intro h
          have h1 := h a List.mem_cons_self
          have h2 := ih fun x hx => h x (List.mem_cons_of_mem _ hx)
          simp only [List.map_cons, List.sum_cons, List.length_cons]
          omega
      have h2 := this (List.range (nCt (fN s1.1) t)) (fun k => nGl (g' t k)) fun x _ => hg _
      rw [List.length_range] at h2
      exact h2
    have e5 : nCt (fN s1.1) 5 = fN s1.1 23 := rfl
    have e6 : nCt (fN s1.1) 6 = fN s1.1 23 := rfl
    have e10 : nCt (fN s1.1) 10 = fN s1.1 26 := rfl
    have e11 : nCt (fN s1.1) 11 = fN s1.1 27 := rfl
    have e3 : nCt (fN s1.1) 3 = 5 := rfl
    have e14 : nCt (fN s1.1) 14 = 1 := rfl
    have e15 : nCt (fN s1.1) 15 = 1 := rfl
    have e16 : nCt (fN s1.1) 16 = 1 := rfl
    have e17 : nCt (fN s1.1) 17 = 1 := rfl
    have e18 : nCt (fN s1.1) 18 = 1 := rfl
    have e19 : nCt (fN s1.1) 19 = 1 := rfl
    have e20 : nCt (fN s1.1) 20 = 1 := rfl
    have q3 := hrow 3
    have q5 := hrow 5
    have q6 := hrow 6
    have q10 := hrow 10
    have q11 := hrow 11
    have q14 := hrow 14
    have q15 := hrow 15
    have q16 := hrow 16
    have q17 := hrow 17
    have q18 := hrow 18
    have q19 := hrow 19
    have q20 := hrow 20
    unfold nSm
    simp only [List.map_cons, List.map_nil, List.sum_cons, List.sum_nil]
    omega
  have hnA : nA (fN s1.1) ≤ 638 := by
    unfold nA
    omega
  simp only [nPn] at c1 c2
  omega
end REL0
