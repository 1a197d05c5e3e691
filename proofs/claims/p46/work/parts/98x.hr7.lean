/-! ===== an hour: a van that is under way ===== -/
section KAP
variable {κ : kP}
section OQP
variable {xs : Nat → Int32} {nx : Nat}
theorem nIn_all {x : Int32} : nIn x 0 4294967296 := by
  refine ⟨x.toBitVec.toNat, Nat.zero_le _, Nat.le_of_lt x.toBitVec.isLt, ?_⟩
  rw [← Int32.toBitVec_inj]
  show x.toBitVec = BitVec.ofNat 32 x.toBitVec.toNat
  rw [BitVec.ofNat_toNat, BitVec.setWidth_eq]
def gCs (c : nC) (m : nM) : Prop := ∀ k, k < fN c 26 → m 56 k ≠ 0 → match fP c 8 k 5 with
  | none => m 78 k = 0 ∨ nIn (m 78 k) 1 6
  | some d => m 78 k = iN (10 + d)
/-- a round that is under way: J stops are done -/
def nRd (R : List Nat) (v J : Nat) (c : nC) (m : nM) : Prop :=
  fL c 11 v = R ∧ R.length ≤ 30 ∧ R.Nodup ∧ m 83 v = iN R.length ∧ m 84 v = iN J ∧ J ≤ 30 ∧ (R ≠ [] → J ≤ R.length ∧ fI c 27 v 6 = iN J ∧ fI c 27 v 5 = m 82 v ∧ nIn (m 82 v) 0 600 ∧ m 82 v ≤ m 1 0) ∧
  (∀ k, k < fN c 26 → m 66 k = 4 → m 67 k = iN v → k ∈ R) ∧ (∀ k, k < fN c 26 → m 78 k = iN (1 + v) → k ∈ R) ∧
  ∀ j k, R[j]? = some k → k < fN c 26 ∧ m 85 (30 * v + j) = iN k ∧ m 86 (30 * v + j) = fI c 9 k 9 ∧ nIn (fI c 9 k 9) 0 10000 ∧
    ((m 66 k = 4 ∧ m 67 k = iN v ∧ m 78 k = 0 ∧ nBo (m 87 (30 * v + j)) ∧ (j < J → m 87 (30 * v + j) = 1) ∧ (J ≤ j → m 87 (30 * v + j) = 0)) ∨
     (m 66 k = 7 ∧ j < J ∧ m 87 (30 * v + j) = 0 ∧ m 78 k = if m 63 k = 1 ∨ m 56 k = 0 then 0 else iN (1 + v)))
theorem toV {n v : Nat} {c : nC} {m : nM} (h : nJ κ (100000 + n) c m) (hn : n < 90000) (hv : v < fN c 27) : nJ κ (100000 * (2 + v) + n) c m ∧ gCs c m ∧ ∃ J, nRd (fL c 11 v) v J c m ∧ (fL c 11 v = [] ∨ J < (fL c 11 v).length) := by
  have ep : (100000 + n) / 100000 = 1 := by omega
  have ep2 : (100000 * (2 + v) + n) / 100000 = 2 + v := by omega
  have h6 := h.1.2.2.2.1.1
  have h0 := h
  unfold nJ at h ⊢
  rw [ep] at h
  rw [ep2]
  obtain ⟨j1, j2, j3, j4, j5, j6, j7, j8, j9, j10, j11, j12, j13, j14, j15⟩ := h
  obtain ⟨y1, y2, y3, y4, y5⟩ := j12.1 v hv
  obtain ⟨r1, r2, r3, r4, r5, r6⟩ := y4 (by omega)
  obtain ⟨J, -, J2, J3⟩ := (j12.2.2 v (by omega)).1
  refine ⟨⟨j1, ?_, fun d hd => ?_, j4, j5, j6, j7, fun k hk => ?_, j9, j10, fun k hk => ?_, ⟨fun w hw => ?_, j12.2⟩, j13, j14, j15⟩, fun k hk hz => ?_, J, ⟨rfl, r2, r3, r1, J3, J2, fun hne => ?_, r4, r5, fun j k hjk => ?_⟩, ?_⟩
  · obtain ⟨g1, t', O, g2, g3, g4, g5⟩ := j2
    exact ⟨g1, t', O, g2, g3, g4, by omega⟩
  · obtain ⟨y1, y2, ⟨y3, -⟩, y5⟩ := j3 d hd
    exact ⟨y1, y2, ⟨y3, fun z => by omega⟩, y5⟩
  · obtain ⟨y1, y2, y3, y4, y⟩ := j8 k hk
    refine ⟨y1, y2, y3, y4, ?_⟩
    rcases y with y | y | ⟨z, l, z1, z2, z3, z4, z5, z6, z7, z8, z9, z10⟩ | y | y | y | y | y | y
    · exact Or.inl y
    · exact Or.inr (Or.inl y)
    · exact Or.inr (Or.inr (Or.inl ⟨z, l, z1, z2, z3, z4, z5, z6, z7, z8, z9, fun w => by omega⟩))
    · exact Or.inr (Or.inr (Or.inr (Or.inl y)))
    · exact Or.inr (Or.inr (Or.inr (Or.inr (Or.inl y))))
    · exact Or.inr (Or.inr (Or.inr (Or.inr (Or.inr (Or.inl y)))))
    · exact Or.inr (Or.inr (Or.inr (Or.inr (Or.inr (Or.inr (Or.inl y))))))
    · exact Or.inr (Or.inr (Or.inr (Or.inr (Or.inr (Or.inr (Or.inr (Or.inl y)))))))
    · exact Or.inr (Or.inr (Or.inr (Or.inr (Or.inr (Or.inr (Or.inr (Or.inr y)))))))
  · obtain ⟨y1, y2, y3, y4, y5, y6, y7, y8, y9⟩ := j11 k hk
    exact ⟨y1, y2, y3, y4, y5, y6, y7, y8, fun w => by omega⟩
  · obtain ⟨y1, y2, y3, y4, y5⟩ := j12.1 w hw
    exact ⟨y1, y2, y3, fun z => y4 (by omega), fun z => y5 (by omega)⟩
  · exact (j11 k hk).2.2.2.2.2.2.2.2 (by decide) hz
  · obtain ⟨w1, w2, w3, w4, w5, w6⟩ := y5 (by omega) hne
    refine ⟨?_, w4.trans J3, w1, w2, w3⟩
    rw [J3, r1] at w6
    have := (iN_lt (by omega) (by omega)).mp w6
    omega
  · have hj : j < 30 := by
      rcases Nat.lt_or_ge j (fL c 11 v).length with z | z
      · omega
      · rw [List.getElem?_eq_none z] at hjk; cases hjk
    obtain ⟨q1, q2, q3, q4, q5⟩ := r6 j k hjk
    refine ⟨q1, q2, q3, q4, ?_⟩
    rw [J3] at q5
    rcases q5 with ⟨u1, u2, u3, u4, u5, u6⟩ | ⟨u1, u2, u3, u4⟩
    · refine Or.inl ⟨u1, u2, u3, u4, fun w => u5 ((iN_lt (by omega) (by omega)).mpr w), fun w => u6 ?_⟩
      rw [Int32.le_iff_toInt_le, iN_toInt (by omega), iN_toInt (by omega)]
      omega
    · exact Or.inr ⟨u1, (iN_lt (by omega) (by omega)).mp u2, u3, u4⟩
  · by_cases hne : fL c 11 v = []
    · exact Or.inl hne
    · obtain ⟨w1, w2, w3, w4, w5, w6⟩ := y5 (by omega) hne
      rw [J3, r1] at w6
      exact Or.inr ((iN_lt (by omega) (by omega)).mp w6)
theorem fromV {n v J : Nat} {R : List Nat} {c : nC} {m : nM} (h : nJ κ (100000 * (2 + v) + n) c m) (hn : n < 90000) (hv : v < fN c 27) (hc : gCs c m) (hR : nRd R v J c m) (hJ : R = [] ∨ J < R.length) : nJ κ (100000 + n) c m := by
  have ep : (100000 + n) / 100000 = 1 := by omega
  have ep2 : (100000 * (2 + v) + n) / 100000 = 2 + v := by omega
  have h6 := h.1.2.2.2.1.1
  unfold nJ at h ⊢
  rw [ep]
  rw [ep2] at h
  obtain ⟨j1, j2, j3, j4, j5, j6, j7, j8, j9, j10, j11, j12, j13, j14, j15⟩ := h
  obtain ⟨rL, r2, r3, r1, J3, J2, rf, r4, r5, r6⟩ := hR
  refine ⟨j1, ?_, fun d hd => ?_, j4, j5, j6, j7, fun k hk => ?_, j9, j10, fun k hk => ?_, ⟨fun w hw => ?_, j12.2⟩, j13, j14, j15⟩
  · obtain ⟨g1, t', O, g2, g3, g4, g5⟩ := j2
    exact ⟨g1, t', O, g2, g3, g4, by omega⟩
  · obtain ⟨y1, y2, ⟨y3, -⟩, y5⟩ := j3 d hd
    exact ⟨y1, y2, ⟨y3, fun z => by omega⟩, y5⟩
  · obtain ⟨y1, y2, y3, y4, y⟩ := j8 k hk
    refine ⟨y1, y2, y3, y4, ?_⟩
    rcases y with y | y | ⟨z, l, z1, z2, z3, z4, z5, z6, z7, z8, z9, z10⟩ | y | y | y | y | y | y
    · exact Or.inl y
    · exact Or.inr (Or.inl y)
    · exact Or.inr (Or.inr (Or.inl ⟨z, l, z1, z2, z3, z4, z5, z6, z7, z8, z9, fun w => by omega⟩))
    · exact Or.inr (Or.inr (Or.inr (Or.inl y)))
    · exact Or.inr (Or.inr (Or.inr (Or.inr (Or.inl y))))
    · exact Or.inr (Or.inr (Or.inr (Or.inr (Or.inr (Or.inl y)))))
    · exact Or.inr (Or.inr (Or.inr (Or.inr (Or.inr (Or.inr (Or.inl y))))))
    · exact Or.inr (Or.inr (Or.inr (Or.inr (Or.inr (Or.inr (Or.inr (Or.inl y)))))))
    · exact Or.inr (Or.inr (Or.inr (Or.inr (Or.inr (Or.inr (Or.inr (Or.inr y)))))))
  · obtain ⟨y1, y2, y3, y4, y5, y6, y7, y8, y9⟩ := j11 k hk
    exact ⟨y1, y2, y3, y4, y5, y6, y7, y8, fun _ => hc k hk⟩
  · obtain ⟨y1, y2, y3, y4, y5⟩ := j12.1 w hw
    by_cases e : w = v
    · subst e
      refine ⟨y1, y2, y3, fun _ => ?_, fun _ hne => ?_⟩
      · rw [rL]
        refine ⟨r1, r2, r3, r4, r5, fun j k hjk => ?_⟩
        have hj : j < 30 := by
          rcases Nat.lt_or_ge j R.length with z | z
          · omega
          · rw [List.getElem?_eq_none z] at hjk; cases hjk
        obtain ⟨q1, q2, q3, q4, q5⟩ := r6 j k hjk
        refine ⟨q1, q2, q3, q4, ?_⟩
        rw [J3]
        rcases q5 with ⟨u1, u2, u3, u4, u5, u6⟩ | ⟨u1, u2, u3, u4⟩
        · refine Or.inl ⟨u1, u2, u3, u4, fun z => u5 ((iN_lt (by omega) (by omega)).mp z), fun z => u6 ?_⟩
          rw [Int32.le_iff_toInt_le, iN_toInt (by omega), iN_toInt (by omega)] at z
          omega
        · exact Or.inr ⟨u1, (iN_lt (by omega) (by omega)).mpr u2, u3, u4⟩
      · rw [rL] at hne
        obtain ⟨w1, w2, w3, w4, w5⟩ := rf hne
        have hlt := hJ.resolve_left hne
        refine ⟨w3, w4, w5, w2.trans J3.symm, ⟨J, Nat.zero_le _, by omega, J3⟩, ?_⟩
        rw [J3, r1]
        exact (iN_lt (by omega) (by omega)).mpr hlt
    · exact ⟨y1, y2, y3, fun z => y4 (by omega), fun z => y5 (by omega)⟩
/-- the fields of a van that is under way -/
theorem nJ_van {i v : Nat} {c c' : nC} {m m' : nM} (hJ : nJ κ i c m) (hp : i / 100000 = 2 + v) (hv : v < fN c 27)
    (cI : ∀ t, t ≠ 27 → fI c' t = fI c t) (cI2 : ∀ v' j, (v' ≠ v ∨ (j ≠ 5 ∧ j ≠ 6)) → fI c' 27 v' j = fI c 27 v' j) (cX : fX c' = fX c) (cP : fP c' = fP c) (cQ : fQ c' = fQ c) (cN : fN c' = fN c)
    (cL : ∀ t, t ≠ 11 → fL c' t = fL c t) (cL2 : ∀ v', v' ≠ v → fL c' 11 v' = fL c 11 v') (cL3 : ∀ k, k ∈ fL c' 11 v → ∀ v', v' < fN c 27 → v' ≠ v → k ∉ fL c 11 v')
    (mt : ∀ t, (t < 82 ∨ 87 < t) → m' t = m t) (m2 : ∀ t v', (t = 82 ∨ t = 83 ∨ t = 84) → v' ≠ v → m' t v' = m t v') (m3 : ∀ t x, (t = 85 ∨ t = 86 ∨ t = 87) → (x < 30 * v ∨ 30 * v + 30 ≤ x) → m' t x = m t x) (h84 : nIn (m' 84 v) 0 30) : nJ κ i c' m' := by
  have h6 := hJ.1.2.2.2.1.1
  unfold nJ at hJ ⊢
  rw [hp] at hJ ⊢
  obtain ⟨j1, j2, j3, j4, j5, j6, j7, j8, j9, j10, j11, j12, j13, j14, j15⟩ := hJ
  simp (disch := decide) only [cI, cX, cP, cQ, cN, cL, mt]
  refine ⟨j1, j2, j3, j4, j5, j6, j7, j8, j9, j10, j11, ⟨fun w hw => ?_, fun w w' k hw hw' hk hk' => ?_, fun w hw => ?_⟩, j13, j14, j15.1, ⟨j15.2.1.1, j15.2.1.2.1, j15.2.1.2.2.1, j15.2.1.2.2.2.1, j15.2.1.2.2.2.2.1, fun v' => (cI2 v' 3 (Or.inr (by decide))).trans (j15.2.1.2.2.2.2.2.1 v'), j15.2.1.2.2.2.2.2.2⟩, j15.2.2⟩
  · obtain ⟨y1, y2, y3, y4, y5⟩ := j12.1 w hw
    refine ⟨y1, by rw [cI2 w 2 (Or.inr (by decide))]; exact y2, by rw [cI2 w 3 (Or.inr (by decide))]; exact y3, fun hpw => ?_, fun hpw => ?_⟩
    · have e : w ≠ v := fun z => hpw (by rw [z])
      obtain ⟨r1, r2, r3, r4, r5, r6⟩ := y4 hpw
      rw [cL2 w e]
      refine ⟨by rw [m2 83 w (by omega) e]; exact r1, r2, r3, r4, r5, fun j k hjk => ?_⟩
      have hj : j < 30 := by
        rcases Nat.lt_or_ge j (fL c 11 w).length with z | z
        · omega
        · rw [List.getElem?_eq_none z] at hjk; cases hjk
      rw [m3 85 _ (by omega) (by omega), m3 86 _ (by omega) (by omega), m3 87 _ (by omega) (by omega), m2 84 w (by omega) e]
      exact r6 j k hjk
    · have e : w ≠ v := fun z => hpw (by rw [z])
      rw [cL2 w e, cI2 w 5 (Or.inl e), cI2 w 6 (Or.inl e), m2 82 w (by omega) e, m2 83 w (by omega) e, m2 84 w (by omega) e]
      exact y5 hpw
  · by_cases e : w = v
    · by_cases e' : w' = v
      · rw [e, e']
      · subst e
        rw [cL2 w' e'] at hk'
        exact absurd hk' (cL3 k hk w' hw' e')
    · by_cases e' : w' = v
      · subst e'
        rw [cL2 w e] at hk
        exact absurd hk (cL3 k hk' w hw e)
      · rw [cL2 w e] at hk
        rw [cL2 w' e'] at hk'
        exact j12.2.1 w w' k hw hw' hk hk'
  · by_cases e : w = v
    · subst e
      exact ⟨h84, fun z => by omega⟩
    · rw [m2 84 w (by omega) e, m2 83 w (by omega) e]
      exact j12.2.2 w hw
/-- the cash of a parcel -/
theorem nJ_78 {i v k : Nat} {c : nC} {m : nM} {x : Int32} (hJ : nJ κ i c m) (hp : i / 100000 = 2 + v) (hk : k < fN c 26) (h5 : x = 0 ∨ (∃ w, w < fN c 27 ∧ x = iN (1 + w)) ∨ nIn x 10 14) (h6 : m 62 k ≠ 1) (h7 : m 56 k = 0 ∨ m 66 k ≠ 7 → x = 0)
    (hr : ∀ w, w < fN c 27 → w ≠ v → k ∉ fL c 11 w ∧ x ≠ iN (1 + w)) : nJ κ i c (uM 78 k x m) := by
  unfold nJ at hJ ⊢
  rw [hp] at hJ ⊢
  obtain ⟨j1, j2, j3, j4, j5, j6, j7, j8, j9, j10, j11, j12, j13, j14, j15⟩ := hJ
  simp (disch := decide) only [uM_ne]
  refine ⟨j1, j2, j3, j4, j5, j6, fun j hj hj4 => ?_, j8, j9, j10, fun j hj => ?_, ⟨fun w hw => ?_, j12.2⟩, j13, j14, j15⟩
  · rw [uM_k (by omega)]
    exact j7 j hj hj4
  · by_cases e : j = k
    · subst e
      obtain ⟨y1, y2, y3, y4, y5, y6, y7, y8, y9⟩ := j11 j hj
      unfold nMon
      rw [uM_kk]
      exact ⟨y1, y2, y3, y4, h5, fun z => absurd z h6, h7, y8, fun z => by omega⟩
    · have := j11 j hj
      unfold nMon at this ⊢
      rw [uM_k e]
      exact this
  · obtain ⟨y1, y2, y3, y4, y5⟩ := j12.1 w hw
    refine ⟨y1, y2, y3, fun hpw => ?_, y5⟩
    have e : w ≠ v := fun z => hpw (by rw [z])
    obtain ⟨q1, q2⟩ := hr w hw e
    obtain ⟨r1, r2, r3, r4, r5, r6⟩ := y4 hpw
    refine ⟨r1, r2, r3, r4, fun j hj z => ?_, fun j k' hjk => ?_⟩
    · by_cases e1 : j = k
      · subst e1
        rw [uM_kk] at z
        exact absurd z q2
      · rw [uM_k e1] at z
        exact r5 j hj z
    · have e1 : k' ≠ k := fun z => q1 (by rw [← z]; exact List.mem_of_getElem? hjk)
      rw [uM_k e1]
      exact r6 j k' hjk
theorem nJ_75 {i : Nat} {c : nC} {m : nM} {x : Int32} (h : nJ κ i c m) : nJ κ i c (uM 1 75 x m) := by
  unfold nJ gCnt gClk at h ⊢
  simp (disch := decide) only [uM_ne, uM1_ne]
  exact h
/-- the cash that a depot holds -/
theorem nJ_cash {i v k d : Nat} {c : nC} {m : nM} (hJ : nJ κ i c m) (hp : i / 100000 = 2 + v) (h6 : m 62 k ≠ 1) (hd : d < 5) : nJ κ i (uP 8 k 5 (some d) c) m := by
  unfold nJ at hJ ⊢
  rw [hp] at hJ ⊢
  obtain ⟨j1, j2, j3, j4, j5, j6, j7, j8, j9, j10, j11, j12, j13, j14, j15⟩ := hJ
  simp (disch := decide) only [fP_ne, fI_uP, fX_uP, fQ_uP, fL_uP, fN_uP]
  refine ⟨j1, j2, j3, j4, j5, j6, j7, j8, j9, j10, fun j hj => ?_, j12, j13, j14, j15⟩
  by_cases e : j = k
  · subst e
    obtain ⟨y1, y2, y3, y4, y5, y6, y7, y8, y9⟩ := j11 j hj
    rw [fP_k, if_pos rfl]
    exact ⟨y1, y2, y3, y4, y5, fun z => absurd z h6, y7, fun d' hd' => by cases hd'; exact hd, fun z => by omega⟩
  · rw [fP_n e]
    exact j11 j hj
/-- one more failure -/
theorem failJ {i k : Nat} {c : nC} {m : nM} {x : Int32} (hJ : nJ κ i c m) (hk : k < fN c 26) : nJ κ i (uI 26 k 15 x c) (uM 65 k x m) := by
  have hP := hJ.2.2.2.2.2.1 k hk
  have hM := hJ.2.2.2.2.2.2.2.2.2.2.1 k hk
  refine nJ_par (k := k) hJ (fun t t1 t2 => fI_ne t1) (fun t t1 => rfl) (fun t t1 => rfl) rfl (fun t x j h => fI_n h) (fun t x j h => rfl) (fun t x j h => rfl) (fun t h => by rw [uM_ne (by omega)]) (fun t x h => by rw [uM_k h]) hk ?_ ?_ ?_ ?_
  · obtain ⟨y1, y2, y3, y4, y5, y6, y7, y8, y9, y10, y11, y12, y13, y14, y15, y16, y17, y18⟩ := hP
    unfold nPar
    simp (disch := decide) only [fI_k, fX_k, fP_k, fI_uP, fI_uX, fX_uP, fX_uI, fP_uX, fP_uI, fI_ne, uM_ne, uM1_ne, uM_kk]
    exact ⟨y1, y2, y3, y4, y5, y6, y7, y8, y9, y10, y11, y12, y13, y14, y15, y16, y17, ⟨by trivial, nIn_all⟩⟩
  · simp (disch := decide) only [fI_ne, uM_ne]
    exact hM
  · exact Or.inl ⟨by simp (disch := decide) only [uM_ne], by simp (disch := decide) only [uM_ne]⟩
  · exact Or.inl ⟨by simp (disch := decide) only [uM_ne], by simp (disch := decide) only [uM_ne], by simp (disch := decide) only [uM_ne], by simp (disch := decide) only [uM_ne]⟩
/-- what a step of a van leaves -/
def fv (c : nC) (m : nM) (c' : nC) (m' : nM) : Prop :=
  (∀ t, t ≠ 25 → fN c' t = fN c t) ∧ (∀ d, fI c' 21 d 5 = fI c 21 d 5) ∧ (∀ t, t ≠ 25 → fX c' t = fX c t) ∧ m' 1 0 = m 1 0 ∧ m' 1 76 = m 1 76 ∧ m' 31 = m 31 ∧
  ∀ k, m' 66 k = 2 → (m 66 k = 2 ∧ m' 67 k = m 67 k ∧ m' 69 k = m 69 k) ∨ m 1 0 < m' 69 k
theorem fv_refl {c : nC} {m : nM} : fv c m c m := ⟨fun _ _ => rfl, fun _ => rfl, fun _ _ => rfl, rfl, rfl, rfl, fun _ h => Or.inl ⟨h, rfl, rfl⟩⟩
theorem fv_fr {c c' : nC} {m m' : nM} (h : fr c m c' m') : fv c m c' m' := ⟨h.1, h.2.1, h.2.2.1, h.2.2.2.1, h.2.2.2.2.2.1, h.2.2.2.2.2.2.1, h.2.2.2.2.2.2.2⟩
theorem fv_trans {c c1 c2 : nC} {m m1 m2 : nM} (h : fv c m c1 m1) (g : fv c1 m1 c2 m2) : fv c m c2 m2 := by
  obtain ⟨h1, h2, h3, h4, h5, h6, h8⟩ := h
  obtain ⟨g1, g2, g3, g4, g5, g6, g8⟩ := g
  refine ⟨fun t ht => (g1 t ht).trans (h1 t ht), fun d => (g2 d).trans (h2 d), fun t ht => (g3 t ht).trans (h3 t ht), g4.trans h4, g5.trans h5, g6.trans h6, fun k hk => ?_⟩
  rcases g8 k hk with ⟨a1, a2, a3⟩ | a
  · rcases h8 k a1 with ⟨b1, b2, b3⟩ | b
    · exact Or.inl ⟨b1, a2.trans b2, a3.trans b3⟩
    · exact Or.inr (by rw [a3]; exact b)
  · exact Or.inr (by rw [← h4]; exact a)
theorem fv_75 {c : nC} {m : nM} {x : Int32} : fv c m c (uM 1 75 x m) := by
  have e : ∀ t, t ≠ 1 → uM 1 75 x m t = m t := fun t h => uM_ne h
  refine ⟨fun _ _ => rfl, fun _ => rfl, fun _ _ => rfl, uM1_ne (by decide), uM1_ne (by decide), e 31 (by decide), fun k hk => ?_⟩
  rw [e 66 (by decide)] at hk
  rw [e 67 (by decide), e 69 (by decide)]
  exact Or.inl ⟨hk, rfl, rfl⟩
end OQP
end KAP
