/-! ===== find, fetch ===== -/
section KAP
variable {κ : kP}
section OPW
variable {xs : Nat → Int32} {nx : Nat}
theorem sty8 {i : Nat} {c : nC} {m : nM} (hJ : nJ κ i c m) {k : Nat} (hk : k < fN c 26) (h : m 66 k = 8) : m 75 k = fI c 9 k 2 := by
  obtain ⟨-, -, -, -, y⟩ := hJ.2.2.2.2.2.2.2.1 k hk
  rw [h] at y
  rcases y with ⟨z, -⟩ | ⟨z, -⟩ | ⟨z, -⟩ | ⟨z, -⟩ | ⟨z, -⟩ | ⟨z, -⟩ | ⟨z, -⟩ | ⟨z, -⟩ | ⟨z, -, -, -, -, -, -, z1⟩
  · exact absurd z (by decide)
  · exact absurd z (by decide)
  · exact absurd z (by decide)
  · exact absurd z (by decide)
  · exact absurd z (by decide)
  · exact absurd z (by decide)
  · exact absurd z (by decide)
  · exact absurd z (by decide)
  · exact z1
theorem nJ_69 {i : Nat} {c : nC} {m : nM} (hJ : nJ κ i c m) : m 1 69 = iN (fL c 19 0).length ∧ (fL c 19 0).length ≤ 400 := ⟨hJ.1.2.2.2.2.2.2.2, hJ.1.2.2.2.2.2.2.1⟩
theorem findN {i : Nat} {c : nC} {m : nM} (hJ : nJ κ i c m) {k : Nat} (hk : k < fN c 26) (h : m 66 k = 8) : nIn (m 1 0 - m 75 k) 0 600 := by
  obtain ⟨-, t, -, ht, et⟩ := nJ_ck hJ
  obtain ⟨-, -, ⟨x, -, hx, ex⟩, hle, -⟩ := hJ.2.2.2.2.2.2.2.1 k hk
  rw [ex, et, Int32.le_iff_toInt_le, iN_toInt (by omega), iN_toInt (by omega)] at hle
  rw [sty8 hJ hk h, ex, et, show iN t - iN x = iN (t - x) from i32_sub (by omega) (by omega)]
  exact ⟨t - x, Nat.zero_le _, by omega, rfl⟩
/-- find -/
abbrev zP20 (κ : kP) (a1 a2 : Int32) (c : nC) (m : nM) (κ' : kP) (c' : nC) (m' : nM) (v : Int32) : Prop := (∃ k d, k < fN c 26 ∧ a1 = iN k ∧ d < 5 ∧ a2 = iN d ∧ m 66 k = 8 ∧ m' 66 k = 0 ∧ m' 67 k = iN d ∧ nIn v 0 600) ∧ κ' = κ ∧ m' 1 0 = m 1 0
abbrev zF20 (a1 a2 : Int32) (c : nC) (m : nM) (E : Nat) : Prop := f3 (¬ (∃ k, k < fN c 26 ∧ a1 = iN k) ∨ ¬ (∃ d, d < 5 ∧ a2 = iN d)) False ((∃ k, k < fN c 26 ∧ a1 = iN k ∧ ¬ m 66 k = 8) ∧ ∃ d, d < 5 ∧ a2 = iN d) E
theorem op20 : ∀ i, i < 512 → ∀ (a1 a2 : Int32), nDoes κ (zP20 κ a1 a2) (zF20 a1 a2) i [(0, 1), (2, 2)] (fun s => R1 xs nx 134 0 [some (vR 0 (some 0)), some (vI a1), some (vI a2), none, none, none] [] s) (fun s => R1 xs nx 232 0 [some (vR 1 (some 0)), some (vI a1), some (vI a2), none] [] s) := by
  intro i hi a1 a2 s hJ
  rcases idx97 (xs := xs) (nx := nx) hJ a1 with ⟨h1, h2⟩ | ⟨k, hk, ea, hin, en, h1, h2⟩
  · exact nFail (hF := Or.inl (nd97 hJ rfl (h1 s rfl))) (E := 0) (e := 1) (v := 0) hJ (by simp only [d_134_0, h1 s rfl, bR, hE]) (fun z => by simp only [d_232_0, h2 (s.1, s.2.1, z) rfl, bI, if_true, d_232_19, d_232_20, d_232_46, r172_1, n10, if_false]) rfl n10
  · rcases dep78 (xs := xs) (nx := nx) a2 with ⟨g1, g2⟩ | ⟨d, hd, rfl, g1, g2⟩
    · exact nFail (hF := Or.inr (nd78 (g1 s))) (E := 0) (e := 1) (v := 0) hJ (by simp only [d_134_0, h1 s rfl, bR, ntg_self, g1, hE]) (fun z => by simp only [d_232_0, h2 (s.1, s.2.1, z) rfl, g2, bI, if_true, d_232_19, d_232_20, d_232_46, r172_1, n10, if_false]) rfl n10
    · subst ea
      have h40 := k40 hJ hk
      obtain ⟨e0, -⟩ := kind8 hJ hk
      by_cases h8 : s.2.1 66 k = 8
      · have h75 := sty8 hJ hk h8
        have hJ' := nJ_76 (x := 0) hJ
        have hp := put0 hJ' (by omega) hk (by rw [uM_ne (by decide), h8]; decide) (by rw [uM_ne (by decide), h8]; decide) hd
        obtain ⟨c', t1, t2, t3⟩ := noteJ (xs := xs) (nx := nx) (k := k) (a := 9) hp (by rw [cMv_N]; exact hk) hd ⟨9, by omega, by omega, rfl⟩
        obtain ⟨b1, b2⟩ := nJ_69 hJ
        refine nDoneU (hP := ⟨⟨k, d, hk, rfl, hd, rfl, h8, by rw [scM_ne (by decide), mMv_66], by rw [scM_ne (by decide), mMv_67], findN hJ hk h8⟩, rfl, by simp (disch := decide) only [uM_ne, uM1_ne, mMv_1, scM_1]⟩) (v := s.2.1 1 0 - s.2.1 75 k) t1 ?_ (fun z => ?_) ?_
        · have hr := r94 (xs := xs) (nx := nx) hJ' hk hd (z := s.2)
          rw [show ((s.1, s.2) : nS) = s from rfl] at hr
          simp only [d_134_0, h1 s rfl, bR, ntg_self, g1, nn_some, e0, h8, if_true, d_134_30, c84_1, bV, hr, t3, (nJ_ck hJ).1, h75]
        · simp (disch := decide) only [d_232_0, h2 (c', s.2.1, z) rfl, g2, bI, n10, if_false, d_232_20, hin, en, h8, if_true, d_232_46, r172_0]
          rw [r193 (B := (fL s.1 19 0).length) hd (by show uM 1 76 0 s.2.1 1 69 = _; rw [uM1_ne (by decide)]; exact b1) b2, bV_none, r191 h40, bV_none]
          dsimp only
          rw [scM_mMv, scM_1 (by decide), mMv_1 (by decide), uM1_ne (by decide), scM_ne (by decide), mMv_ne (by decide), uM_ne (by decide)]
        · rw [scM_1 (by decide), mMv0_76, uM_self]
      · exact nFail (hF := ⟨⟨k, hk, rfl, h8⟩, d, hd, rfl⟩) (E := 2) (e := 2) (v := 0) hJ (by simp only [d_134_0, h1 s rfl, bR, ntg_self, g1, nn_some, e0, h8, if_false, d_134_30, c84_0, bV, hE]) (fun z => by simp only [d_232_0, h2 (s.1, s.2.1, z) rfl, g2, bI, n10, if_false, d_232_20, hin, en, h8, if_true, d_232_46, r172_2]) rfl n20
/-- the reference hands over -/
def hdM (k : Nat) (m : nM) : nM := if m 77 k = 0 then uM 74 k (m 1 0) (mMv k 7 (-1) m) else uM 77 k 0 (uM 90 (m 49 k).toNatClampNeg (m 90 (m 49 k).toNatClampNeg - m 76 k) (uM 74 k (m 1 0) (mMv k 7 (-1) m)))
theorem r204 {k u : Nat} {c9 : nC} {m : nM} {z : Nat × (Nat → Int64)} (hk : k < 40) (hu : u < 4) (h49 : m 49 k = iN u) : R1 xs nx 204 0 [some (vR 1 (some 0)), some (vI (iN k))] [] (c9, m, z) = some (.inl none, (c9, hdM k m, z)) := by
  have hin : mIn (iN k) 40 = true := iN_in40 hk
  have en : (iN k).toNatClampNeg = k := i32_nat (by omega)
  have hu4 : mIn (iN u) 4 = true := mIn_iff.mpr ⟨i32_pos (by omega), by rw [i32_nat (by omega)]; omega⟩
  unfold hdM
  rw [d_204_0, r190 hk, bV_none]
  simp (disch := decide) only [hin, if_true, en, mMv_ne, mMv_1, uM_ne, h49, hu4, true_and, true_or]
  by_cases h : m 77 k = 0
  · rw [if_pos h, if_pos h]
  · rw [if_neg h, if_neg h]
theorem hd_sc {k d k' : Nat} {a : Int32} {m : nM} : hdM k' (scM k d a m) = scM k d a (hdM k' m) := by
  have e49 : scM k d a m 49 = m 49 := scM_ne (by decide)
  have e90 : scM k d a m 90 = m 90 := scM_ne (by decide)
  have e76 : scM k d a m 76 = m 76 := scM_ne (by decide)
  have e77 : scM k d a m 77 = m 77 := scM_ne (by decide)
  have e10 : scM k d a m 1 0 = m 1 0 := scM_1 (by decide)
  unfold hdM
  rw [e49, e90, e76, e77, e10, scM_mMv]
  split
  · rw [scM_uM (by omega)]
  · rw [scM_uM (by omega), scM_uM (by omega), scM_uM (by omega)]
theorem uM_id {t j : Nat} {x : Int32} {m : nM} (h : m t j = x) : uM t j x m = m := by
  funext a b
  unfold uM up2
  split
  · rename_i e
    rw [e.1, e.2, h]
  · rfl
/-- a parcel is handed over -/
theorem handJr {i k : Nat} {c : nC} {m : nM} (hJ : nJ κ i c m) (hi : i % 100000 < 90000) (hk : k < fN c 26) (h7 : m 66 k ≠ 7) (hr : ∀ v, v < fN c 27 → i / 100000 ≠ 2 + v → k ∉ fL c 11 v) (hf : m 62 k ≠ 1) :
    ∃ c', nJ (κ.1 + 1, κ.2) (i + 1) c' (hdM k m) ∧ (∀ t, t ≠ 22 → fI c' t = fI (cMv k 7 (-1) none none (m 1 0) c) t) ∧ c'.2 = (cMv k 7 (-1) none none (m 1 0) c).2 ∧ (∀ z, R1 xs nx 117 0 [some (vR 0 (some 0)), some (vR 26 (some k))] [] (c, z) = some (.inl none, (c', z))) ∧ ∃ u, u < 4 ∧ m 49 k = iN u := by
  have hp := put7r hJ hi hk h7 hr hf
  obtain ⟨⟨u, u1, u2, u3⟩, y2, y3, y4, y5, y6, y7, y8, y9, y10, -⟩ := hJ.2.2.2.2.2.1 k hk
  have hM := hJ.2.2.2.2.2.2.2.2.2.2.1 k hk
  have h77 : m 77 k = fI c 8 k 4 := hM.2.2.1 h7
  have hA := hJ.2.2.2.2.2.2.2.2.2.2.2.2.2.2.1 u u1
  have hR := fun z => mvR (xs := xs) (nx := nx) hJ hk (w := 7) (a := -1) (ck := fI c 0 0 9) (D := none) (q := none) (z := z) (Or.inl rfl)
  have un : (m 49 k).toNatClampNeg = u := by rw [u3]; exact i32_nat (by omega)
  by_cases h0 : m 77 k = 0
  · refine ⟨cMv k 7 (-1) none none (m 1 0) c, ?_, fun _ _ => rfl, rfl, fun z => ?_, u, u1, u3⟩
    · have : hdM k m = uM 77 k 0 (uM 74 k (m 1 0) (mMv k 7 (-1) m)) := by
        unfold hdM
        rw [if_pos h0, uM_id (t := 77)]
        rw [uM_ne (by decide), mMv_ne (by decide), h0]
      rw [this]
      exact hp
    · rw [d_117_0]
      dsimp only
      rw [hR z, bV_none, (nJ_ck hJ).1]
      dsimp only
      rw [cMv_I (by decide), cOut_I (by decide), ← h77, if_pos h0]
  · have hq := nJ_acct (u := u) (x := m 90 u - m 76 k) hp
    refine ⟨uI 22 u 1 (m 90 u - m 76 k) (cMv k 7 (-1) none none (m 1 0) c), ?_, fun t t1 => fI_ne t1, rfl, fun z => ?_, u, u1, u3⟩
    · have : hdM k m = uM 90 u (m 90 u - m 76 k) (uM 77 k 0 (uM 74 k (m 1 0) (mMv k 7 (-1) m))) := by
        unfold hdM
        rw [if_neg h0, un, uM_comm (Or.inl (by decide))]
      rw [this]
      exact hq
    · rw [d_117_0]
      dsimp only
      rw [hR z, bV_none, (nJ_ck hJ).1]
      dsimp only
      rw [cMv_I (t := 8) (by decide), cOut_I (by decide), ← h77, if_neg h0, cMv_P (by decide), u2, nn_some, cMv_I (t := 22) (by decide), cOut_I (by decide), hA, y10.1]
/-- a parcel that is on no van is handed over -/
theorem handJ {i k : Nat} {c : nC} {m : nM} (hJ : nJ κ i c m) (hi : i % 100000 < 90000) (hk : k < fN c 26) (h4 : m 66 k ≠ 4) (h7 : m 66 k ≠ 7) (hf : m 62 k ≠ 1) :
    ∃ c', nJ (κ.1 + 1, κ.2) (i + 1) c' (hdM k m) ∧ fN c' = fN c ∧ fX c' = fX c ∧ (∀ z, R1 xs nx 117 0 [some (vR 0 (some 0)), some (vR 26 (some k))] [] (c, z) = some (.inl none, (c', z))) ∧ ∃ u, u < 4 ∧ m 49 k = iN u := by
  obtain ⟨c', h1, -, h3, h5, h6⟩ := handJr (xs := xs) (nx := nx) hJ hi hk h7 (nJ_nl hJ h4 h7) hf
  exact ⟨c', h1, (congrArg (·.2.2.2.2) h3).trans cMv_N, (congrArg (·.1) h3).trans cMv_X, h5, h6⟩
/-- the first one of which something holds -/
def nFst (p : Nat → Bool) : Nat → Nat → Option Nat
  | 0, _ => none
  | n + 1, i => if p i then some i else nFst p n (i + 1)
def oI (o : Option Nat) : Int32 := match o with
  | none => -1
  | some k => iN k
theorem nFst_some {p : Nat → Bool} : ∀ (n i : Nat) {k : Nat}, nFst p n i = some k → i ≤ k ∧ k < i + n ∧ p k = true := by
  intro n
  induction n with
  | zero => intro i k h; cases h
  | succ n ih =>
    intro i k h
    simp only [nFst] at h
    by_cases e : p i = true
    · rw [if_pos e] at h
      have := Option.some.inj h
      subst this
      exact ⟨Nat.le_refl _, by omega, e⟩
    · rw [if_neg e] at h
      obtain ⟨h1, h2, h3⟩ := ih (i + 1) h
      exact ⟨by omega, by omega, h3⟩
theorem nFst_min {p : Nat → Bool} : ∀ (n i : Nat) {k : Nat}, nFst p n i = some k → ∀ j, i ≤ j → j < k → p j = false := by
  intro n
  induction n with
  | zero => intro i k h; cases h
  | succ n ih =>
    intro i k h j h1 h2
    simp only [nFst] at h
    by_cases e : p i = true
    · rw [if_pos e] at h
      have := Option.some.inj h
      omega
    · rw [if_neg e] at h
      by_cases q : j = i
      · rw [q]; exact Bool.eq_false_iff.mpr e
      · exact ih (i + 1) h j (by omega) h2
theorem hdM_66 {k : Nat} {m : nM} : hdM k m 66 k = 7 := by
  unfold hdM
  split
  · rw [uM_ne (by decide), mMv_66]
  · rw [uM_ne (by decide), uM_ne (by decide), uM_ne (by decide), mMv_66]
theorem hdM_1 {k : Nat} {m : nM} : hdM k m 1 0 = m 1 0 := by
  unfold hdM
  split
  · simp (disch := decide) only [uM_ne, mMv_1]
  · simp (disch := decide) only [uM_ne, mMv_1]
theorem hdM_90 {k u : Nat} {m : nM} (hu : u < 4) (h : m 49 k = iN u) : hdM k m 90 u = m 90 u ∨ hdM k m 90 u = m 90 u - m 76 k := by
  have un : (m 49 k).toNatClampNeg = u := by rw [h]; exact i32_nat (by omega)
  unfold hdM
  split
  · exact Or.inl (by rw [uM_ne (by decide), mMv_ne (by decide)])
  · exact Or.inr (by rw [uM_ne (by decide), un, uM_kk])
theorem iN_m1 {n : Nat} : iN n + (-1) = iN n - 1 := (Int32.sub_eq_add_neg (iN n) 1).symm
theorem neg1_lt : (-1 : Int32) < 0 := by decide
theorem iN_ne1 {n : Nat} (h : n < 2 ^ 31) : ¬ iN n = -1 := by
  intro z
  have := congrArg Int32.toInt z
  rw [iN_toInt h, show (-1 : Int32).toInt = -1 from rfl] at this
  omega
theorem code136 {s : nS} {l P : Nat} {a2 : Int32} (hl : fL s.1 16 0 = List.range P) (hP : P ≤ 40) : ∀ (n i : Nat) (l4 : Option nV), i + n = P → R1 xs nx 136 2 [some (vR 0 (some 0)), some (vR 28 (some l)), some (vI a2), some (vI (iN i)), l4] [] s = some (.inl (some (vR 26 (nFst (fun k => decide (fP s.1 9 k 5 = some l ∧ fI s.1 9 k 7 = a2)) n i))), s) := by
  intro n
  induction n with
  | zero =>
    intro i l4 e
    rw [d_136_2, hl, List.length_range, if_neg (fun z => by have := (iN_lt (by omega) (by omega)).mp z; omega)]
    rfl
  | succ n ih =>
    intro i l4 e
    rw [d_136_2, hl, List.length_range, if_pos ((iN_lt (by omega) (by omega)).mpr (by omega)), if_neg (iN_pos (by omega)), i32_nat (by omega), List.getElem?_range (by omega), nn_some]
    simp only [nFst]
    by_cases h1 : fP s.1 9 i 5 = some l
    · rw [if_pos h1]
      by_cases h2 : fI s.1 9 i 7 = a2
      · rw [if_pos h2, if_pos (decide_eq_true ⟨h1, h2⟩)]
      · rw [if_neg h2, d_136_53, iN_add1, ih (i + 1) _ (by omega), if_neg (fun z => h2 (of_decide_eq_true z).2)]
    · rw [if_neg h1, d_136_53, iN_add1, ih (i + 1) _ (by omega), if_neg (fun z => h1 (of_decide_eq_true z).1)]
theorem code234 {s : nS} {a1 a2 a3 : Int32} {P : Nat} (hP : P ≤ 40) : ∀ (j : Nat), j ≤ P → ∀ (as0 : Int32), as0 = oI (nFst (fun k => decide (s.2.1 66 k = 5 ∧ s.2.1 67 k = a1 ∧ s.2.1 72 k = a2)) (P - j) j) →
    ∃ a5 : Int32, a5 < 0 ∧ R1 xs nx 234 17 [some (vR 1 (some 0)), some (vI a1), some (vI a2), some (vI a3), some (vI as0), some (vI (iN j - 1))] [] s = R1 xs nx 234 17 [some (vR 1 (some 0)), some (vI a1), some (vI a2), some (vI a3), some (vI (oI (nFst (fun k => decide (s.2.1 66 k = 5 ∧ s.2.1 67 k = a1 ∧ s.2.1 72 k = a2)) P 0))), some (vI a5)] [] s := by
  intro j
  induction j with
  | zero =>
    intro hj as0 h
    exact ⟨iN 0 - 1, by decide, by rw [h]; rfl⟩
  | succ j ih =>
    intro hj as0 h
    have e1 : iN (j + 1) - 1 = iN j := iN_sub1 (by omega)
    have hin : mIn (iN j) 40 = true := iN_in40 (by omega)
    have en : (iN j).toNatClampNeg = j := i32_nat (by omega)
    have hs : P - j = (P - (j + 1)) + 1 := by omega
    rw [e1, d_234_17, if_neg (iN_pos (by omega)), if_pos hin, en]
    by_cases h1 : s.2.1 66 j = 5
    · rw [if_pos h1, if_pos hin]
      by_cases h2 : s.2.1 67 j = a1
      · rw [if_pos h2, if_pos hin]
        by_cases h3 : s.2.1 72 j = a2
        · rw [if_pos h3, d_234_62, iN_m1]
          refine ih (by omega) (iN j) ?_
          rw [hs]
          simp only [nFst]
          rw [if_pos (decide_eq_true ⟨h1, h2, h3⟩)]
          rfl
        · rw [if_neg h3, d_234_60, d_234_62, iN_m1]
          refine ih (by omega) as0 ?_
          rw [hs]
          simp only [nFst]
          rw [if_neg (fun z => h3 (of_decide_eq_true z).2.2)]
          exact h
      · rw [if_neg h2, d_234_60, d_234_62, iN_m1]
        refine ih (by omega) as0 ?_
        rw [hs]
        simp only [nFst]
        rw [if_neg (fun z => h2 (of_decide_eq_true z).2.1)]
        exact h
    · rw [if_neg h1, d_234_60, d_234_62, iN_m1]
      refine ih (by omega) as0 ?_
      rw [hs]
      simp only [nFst]
      rw [if_neg (fun z => h1 (of_decide_eq_true z).1)]
      exact h
theorem nFst_none {p : Nat → Bool} : ∀ (n i : Nat), nFst p n i = none ↔ ∀ k, i ≤ k → k < i + n → p k = false := by
  intro n
  induction n with
  | zero => intro i; exact ⟨fun _ k h1 h2 => absurd h2 (by omega), fun _ => rfl⟩
  | succ n ih =>
    intro i
    simp only [nFst]
    by_cases e : p i = true
    · rw [if_pos e]
      exact ⟨fun z => (by cases z), fun z => (by rw [z i (Nat.le_refl _) (by omega)] at e; cases e)⟩
    · rw [if_neg e, ih (i + 1)]
      constructor
      · intro z k h1 h2
        by_cases q : k = i
        · rw [q]; exact Bool.eq_false_iff.mpr e
        · exact z k (by omega) (by omega)
      · intro z k h1 h2
        exact z k (by omega) (by omega)
/-- the first lane between two depots that takes so long at most -/
def okF (c : nC) (a b : Nat) (t : Int32) : Option Nat := nFst (fun l => decide (fX c 23 l 1 = a ∧ fX c 23 l 2 = b ∧ ¬ t < fI c 23 l 3)) (fN c 23) 0
theorem nFst_cg {p q : Nat → Bool} : ∀ (n i : Nat), (∀ k, k < i + n → p k = q k) → nFst p n i = nFst q n i := by
  intro n
  induction n with
  | zero => intro i _; rfl
  | succ n ih =>
    intro i h
    simp only [nFst]
    rw [h i (by omega), ih (i + 1) (fun k hk => h k (by omega))]
theorem idx233 {i : Nat} {c : nC} {m : nM} (hJ : nJ κ i c m) (a : Int32) : ((∀ s : nS, fL s.1 18 0 = fL c 18 0 → R1 xs nx 135 0 [some (vR 0 (some 0)), some (vI a)] [] s = some (.inr 0, (s.1, s.2.1, s.2.2.1 + 1, s.2.2.2))) ∧ ∀ s : nS, s.2.1 1 65 = m 1 65 → R1 xs nx 233 0 [some (vR 1 (some 0)), some (vI a)] [] s = some (.inl (some (vI 0)), s)) ∨
    ∃ k, k < fN c 28 ∧ a = iN k ∧ mIn a 5 = true ∧ a.toNatClampNeg = k ∧ (∀ s : nS, fL s.1 18 0 = fL c 18 0 → R1 xs nx 135 0 [some (vR 0 (some 0)), some (vI a)] [] s = some (.inl (some (vR 28 (some k))), s)) ∧ ∀ s : nS, s.2.1 1 65 = m 1 65 → R1 xs nx 233 0 [some (vR 1 (some 0)), some (vI a)] [] s = some (.inl (some (vI 1)), s) := idx135 hJ a
/-- fetch -/
abbrev zP21 (κ : kP) (a1 a2 : Int32) (c : nC) (m : nM) (κ' : kP) (c' : nC) (m' : nM) (v : Int32) : Prop := ∃ k u, (∃ k, k < fN c 28 ∧ a1 = iN k) ∧ k < fN c 26 ∧ v = iN k ∧ (m 66 k = 5 ∧ m 67 k = a1 ∧ m 72 k = a2) ∧ (∀ j, j < k → ¬ (m 66 j = 5 ∧ m 67 j = a1 ∧ m 72 j = a2)) ∧ u < 4 ∧ m 49 k = iN u ∧ m' 66 k = 7 ∧ (m' 90 u = m 90 u ∨ m' 90 u = m 90 u - m 76 k) ∧ κ' = (κ.1 + 1, κ.2) ∧ m' 1 0 = m 1 0
abbrev zF21 (a1 a2 : Int32) (c : nC) (m : nM) (E : Nat) : Prop := f3 (¬ (∃ k, k < fN c 28 ∧ a1 = iN k)) False ((∃ k, k < fN c 28 ∧ a1 = iN k) ∧ ∀ k, k < fN c 26 → ¬ (m 66 k = 5 ∧ m 67 k = a1 ∧ m 72 k = a2)) E
theorem op21 : ∀ i, i < 512 → ∀ (a1 a2 : Int32), nDoes κ (zP21 κ a1 a2) (zF21 a1 a2) i [(0, 1), (2, 2)] (fun s => R1 xs nx 137 0 [some (vR 0 (some 0)), some (vI a1), some (vI a2), none, none] [] s) (fun s => R1 xs nx 234 0 [some (vR 1 (some 0)), some (vI a1), some (vI a2), none, none, none] [] s) := by
  intro i hi a1 a2 s hJ
  obtain ⟨q1, q2, q3⟩ := hJ.1.2.2.1
  have hloop : ∀ (c9 : nC) z (x : Int32), ∃ a5 : Int32, a5 < 0 ∧ R1 xs nx 234 17 [some (vR 1 (some 0)), some (vI a1), some (vI a2), some (vI x), some (vI (-1 : Int32)), some (vI (s.2.1 1 24 - 1))] [] (c9, s.2.1, z) = R1 xs nx 234 17 [some (vR 1 (some 0)), some (vI a1), some (vI a2), some (vI x), some (vI (oI (nFst (fun k => decide (s.2.1 66 k = 5 ∧ s.2.1 67 k = a1 ∧ s.2.1 72 k = a2)) (fN s.1 26) 0))), some (vI a5)] [] (c9, s.2.1, z) := by
    intro c9 z x
    rw [q2]
    exact code234 (s := (c9, s.2.1, z)) q1 (fN s.1 26) (Nat.le_refl _) (-1) (by rw [Nat.sub_self]; rfl)
  rcases idx233 (xs := xs) (nx := nx) hJ a1 with ⟨h1, h2⟩ | ⟨l, hl, ea, hin, en, h1, h2⟩
  · refine nFail (hF := nd135 hJ rfl (h1 s rfl)) (E := 0) (e := 1) (v := 0) hJ (by simp only [d_137_0, h1 s rfl, bR, hE]) (fun z => ?_) rfl n10
    obtain ⟨a5, l1, l2⟩ := hloop s.1 z 0
    simp only [d_234_0, h2 (s.1, s.2.1, z) rfl, bI, l2]
    simp only [d_234_17, l1, if_true, d_234_90, r172_1, bI, n10, if_false]
  · have hl5 : fN s.1 28 ≤ 5 := hJ.1.2.2.2.2.1.1
    have hcg : nFst (fun k => decide (fP s.1 9 k 5 = some l ∧ fI s.1 9 k 7 = a2)) (fN s.1 26) 0 = nFst (fun k => decide (s.2.1 66 k = 5 ∧ s.2.1 67 k = a1 ∧ s.2.1 72 k = a2)) (fN s.1 26) 0 := by
      apply nFst_cg
      intro k hk
      have hk : k < fN s.1 26 := by omega
      have e7 := code7 hJ hk
      apply decide_eq_decide.mpr
      rcases nJ_5 hJ hk with ⟨z, l', j', y1, y2, y3, y4, y5, y6, y7⟩ | ⟨z, y⟩
      · rw [y5, e7, if_pos z, y4, ea, Option.some.injEq, iN_inj (by omega) (by omega)]
        exact ⟨fun q => ⟨z, q⟩, fun q => q.2⟩
      · rw [y]
        exact ⟨fun q => (by cases q.1), fun q => absurd q.1 z⟩
    have hc := code136 (xs := xs) (nx := nx) (s := s) (l := l) (a2 := a2) q3 q1 (fN s.1 26) 0 none (Nat.zero_add _)
    rw [hcg] at hc
    revert hc
    cases hF : nFst (fun k => decide (s.2.1 66 k = 5 ∧ s.2.1 67 k = a1 ∧ s.2.1 72 k = a2)) (fN s.1 26) 0 with
    | none =>
      intro hc
      refine nFail (hF := ⟨⟨l, hl, ea⟩, fun k hk z => by have := (nFst_none _ _).mp hF k (Nat.zero_le _) (by omega); simp [z.1, z.2.1, z.2.2] at this⟩) (E := 2) (e := 2) (v := 0) hJ ?_ (fun z => ?_) rfl n20
      · simp only [d_137_0, h1 s rfl, bR, ntg_self, d_136_0]
        rw [show (0 : Int32) = iN 0 from rfl, hc]
        rfl
      · obtain ⟨a5, l1, l2⟩ := hloop s.1 z 1
        rw [hF] at l2
        simp only [d_234_0, h2 (s.1, s.2.1, z) rfl, bI, l2]
        simp only [d_234_17, l1, if_true, n10, if_false, oI, d_234_90, r172_2, bI]
    | some k =>
      intro hc
      obtain ⟨-, k2, k3⟩ := nFst_some _ _ hF
      obtain ⟨w5, w6, w7⟩ := of_decide_eq_true k3
      have hk : k < fN s.1 26 := by omega
      have hJ' := nJ_76 (x := 0) hJ
      have hM := hJ.2.2.2.2.2.2.2.2.2.2.1 k hk
      have hf : s.2.1 62 k ≠ 1 := by
        intro z
        rcases (hM.2.2.2.2.2.1 z).2.2 with y | y
        · rw [y] at w5; exact absurd w5 (by decide)
        · rw [y] at w5; exact absurd w5 (by decide)
      obtain ⟨c1, t1, t2, t3, t4, u, u1, u2⟩ := handJ (xs := xs) (nx := nx) hJ' (by omega) hk (by rw [uM_ne (by decide), w5]; decide) (by rw [uM_ne (by decide), w5]; decide) (by rw [uM_ne (by decide)]; exact hf)
      obtain ⟨⟨x1, x2⟩, -⟩ := hJ.2.2.2.2.2.2.2.2.2.2.2.2.1 l hl
      obtain ⟨c', r1, r2, r3⟩ := noteJ (xs := xs) (nx := nx) (k := k) (a := 8) t1 (by rw [t2]; exact hk) x1 ⟨8, by omega, by omega, rfl⟩
      obtain ⟨b1, b2⟩ := nJ_69 hJ
      have hmin : ∀ j, j < k → ¬ (s.2.1 66 j = 5 ∧ s.2.1 67 j = a1 ∧ s.2.1 72 j = a2) := fun j hj z => by
        have := nFst_min _ _ hF j (Nat.zero_le _) hj
        simp [z.1, z.2.1, z.2.2] at this
      have h90 : scM k (fX s.1 28 l 1) 8 (hdM k (uM 1 76 0 s.2.1)) 90 u = s.2.1 90 u ∨ scM k (fX s.1 28 l 1) 8 (hdM k (uM 1 76 0 s.2.1)) 90 u = s.2.1 90 u - s.2.1 76 k := by
        have := hdM_90 (k := k) (m := uM 1 76 0 s.2.1) u1 u2
        rw [scM_ne (by decide)]
        simp (disch := decide) only [uM_ne] at this ⊢
        exact this
      refine nDoneU (hP := ⟨k, u, ⟨l, hl, ea⟩, hk, rfl, ⟨w5, w6, w7⟩, hmin, u1, by rw [uM_ne (by decide)] at u2; exact u2, by rw [scM_ne (by decide), hdM_66], h90, rfl, by rw [scM_1 (by decide), hdM_1, uM1_ne (by decide)]⟩) (v := iN k) r1 ?_ (fun z => ?_) ?_
      · have ht := t4 s.2
        rw [show ((s.1, s.2) : nS) = s from rfl] at ht
        simp only [d_137_0, h1 s rfl, bR, ntg_self, d_136_0]
        rw [show (0 : Int32) = iN 0 from rfl, hc]
        simp only [ntg_self, nz_some, ht, bV, nn_some, t3, r3]
      · obtain ⟨a5, l1, l2⟩ := hloop c' z 1
        rw [hF] at l2
        simp only [d_234_0, h2 (c', s.2.1, z) rfl, bI, l2]
        simp only [d_234_17, l1, if_true, n10, if_false, oI, iN_ne1 (show k < 2 ^ 31 by omega), d_234_90, r172_0, bI, hin, en]
        rw [uM_ne (by decide), x2, r193 (B := (fL s.1 19 0).length) x1 (by show uM 1 76 0 s.2.1 1 69 = _; rw [uM1_ne (by decide)]; exact b1) b2, bV_none]
        dsimp only
        rw [r204 (u := u) (by omega) u1 (by rw [scM_ne (by decide)]; exact u2), hd_sc]
        rfl
      · rw [scM_1 (by decide)]
        unfold hdM
        split
        · rw [uM_ne (by decide), mMv0_76, uM_self]
        · rw [uM_ne (by decide), uM_ne (by decide), uM_ne (by decide), mMv0_76, uM_self]
end OPW
end KAP
