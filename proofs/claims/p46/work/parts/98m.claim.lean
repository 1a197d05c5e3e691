/-! ===== claim ===== -/
section KAP
variable {κ : kP}
section OQE
variable {xs : Nat → Int32} {nx : Nat}
def mosG (v a3 : Int32) : Int32 := if a3 = 0 then (if (500 : Int32) < v then 500 else v) / 2 else if (500 : Int32) < v then 500 else v
def worG (K T ck v a3 : Int32) : Int32 := if K = 8 then mosG v a3 else if K = 7 then 0 else if ck - T < 72 then 0 else mosG v a3
def worL (K ret pr h2 ck : Int32) : Int32 := if ret = 0 then (if pr < (if K = 7 then h2 else ck) then (if (50 : Int32) < 2 * ((if K = 7 then h2 else ck) - pr) then 50 else 2 * ((if K = 7 then h2 else ck) - pr)) else 0) else 0
theorem mosG_in {v a3 : Int32} (h : nIn v 0 1000) : nIn (mosG v a3) 0 500 := by
  obtain ⟨n, -, h1, rfl⟩ := h
  have e : (if (500 : Int32) < iN n then (500 : Int32) else iN n) = iN (if 500 < n then 500 else n) := by
    by_cases c : 500 < n
    · rw [if_pos c, if_pos (show (500 : Int32) < iN n from (iN_lt (a := 500) (by omega) (by omega)).mpr c)]
      rfl
    · rw [if_neg c, if_neg (show ¬ (500 : Int32) < iN n from fun z => c ((iN_lt (a := 500) (by omega) (by omega)).mp z))]
  unfold mosG
  rw [e]
  have hle : (if 500 < n then 500 else n) ≤ 500 := by split <;> omega
  generalize (if 500 < n then 500 else n) = q at hle
  split
  · rw [show (2 : Int32) = iN 2 from rfl, iN_div (by omega) (by omega)]
    exact ⟨q / 2, Nat.zero_le _, by omega, rfl⟩
  · exact ⟨q, Nat.zero_le _, hle, rfl⟩
theorem worG_in {K T ck v a3 : Int32} (h : nIn v 0 1000) : nIn (worG K T ck v a3) 0 500 := by
  have h0 : nIn (0 : Int32) 0 500 := ⟨0, by omega, by omega, rfl⟩
  unfold worG
  split
  · exact mosG_in h
  · split
    · exact h0
    · split
      · exact h0
      · exact mosG_in h
theorem worL_in {K ret pr h2 ck : Int32} (h1 : nIn pr 0 800) (h3 : nIn h2 0 600) (h4 : nIn ck 0 600) : nIn (worL K ret pr h2 ck) 0 500 := by
  have h0 : nIn (0 : Int32) 0 500 := ⟨0, by omega, by omega, rfl⟩
  have he : nIn (if K = 7 then h2 else ck) 0 600 := by
    split
    · exact h3
    · exact h4
  unfold worL
  generalize (if K = 7 then h2 else ck) = e at he
  obtain ⟨E, -, e1, rfl⟩ := he
  obtain ⟨p, -, p1, rfl⟩ := h1
  split
  · by_cases c : iN p < iN E
    · rw [if_pos c]
      have c' := (iN_lt (by omega) (by omega)).mp c
      rw [show iN E - iN p = iN (E - p) from i32_sub (by omega) (by omega), show (2 : Int32) = iN 2 from rfl, iN_mul]
      by_cases q : (50 : Int32) < iN (2 * (E - p))
      · rw [if_pos q]
        exact ⟨50, by omega, by omega, rfl⟩
      · rw [if_neg q]
        have : ¬ 50 < 2 * (E - p) := fun z => q ((iN_lt (a := 50) (by omega) (by omega)).mpr z)
        exact ⟨2 * (E - p), by omega, by omega, rfl⟩
    · rw [if_neg c]; exact h0
  · exact h0
theorem worL_50 {K ret pr h2 ck : Int32} (h1 : nIn pr 0 800) (h3 : nIn h2 0 600) (h4 : nIn ck 0 600) : nIn (worL K ret pr h2 ck) 0 50 := by
  have h0 : nIn (0 : Int32) 0 50 := ⟨0, by omega, by omega, rfl⟩
  have he : nIn (if K = 7 then h2 else ck) 0 600 := by
    split
    · exact h3
    · exact h4
  unfold worL
  generalize (if K = 7 then h2 else ck) = e at he
  obtain ⟨E, -, e1, rfl⟩ := he
  obtain ⟨p, -, p1, rfl⟩ := h1
  split
  · by_cases c : iN p < iN E
    · rw [if_pos c]
      have c' := (iN_lt (by omega) (by omega)).mp c
      rw [show iN E - iN p = iN (E - p) from i32_sub (by omega) (by omega), show (2 : Int32) = iN 2 from rfl, iN_mul]
      by_cases q : (50 : Int32) < iN (2 * (E - p))
      · rw [if_pos q]
        exact ⟨50, by omega, by omega, rfl⟩
      · rw [if_neg q]
        have : ¬ 50 < 2 * (E - p) := fun z => q ((iN_lt (a := 50) (by omega) (by omega)).mpr z)
        exact ⟨2 * (E - p), by omega, by omega, rfl⟩
    · rw [if_neg c]; exact h0
  · exact h0
/-- when a parcel was heard of last -/
def hrd (c : nC) (k : Nat) : Int32 := match (fL c 10 k).getLast? with
  | none => fI c 26 k 4
  | some b => if fI c 26 k 4 < fI c 25 b 2 then fI c 25 b 2 else fI c 26 k 4
theorem gone138 {i k : Nat} {a3 : Int32} {s : nS} (hJ : nJ κ i s.1 s.2.1) (hk : k < fN s.1 26) : R1 xs nx 138 0 [some (vR 0 (some 0)), some (vR 26 (some k)), some (vI a3), none, none, none, none] [] s = some (.inl (some (vI (worG (s.2.1 66 k) (hrd s.1 k) (s.2.1 1 0) (s.2.1 55 k) a3))), s) := by
  obtain ⟨e0, -⟩ := kind8 hJ hk
  have ck := (nJ_ck hJ).1
  have e55 := (hJ.2.2.2.2.2.1 k hk).2.2.2.2.2.2.1.1
  have h79 : ∀ (q3 : Option Nat) (a4 a5 : Int32), R1 xs nx 138 79 [some (vR 0 (some 0)), some (vR 26 (some k)), some (vI a3), some (vR 25 q3), some (vI a4), some (vI a5), none] [] s = some (.inl (some (vI (mosG (s.2.1 55 k) a3))), s) := fun q3 a4 a5 => by
    rw [d_138_79, e55]
    unfold mosG
    split <;> rfl
  have h27 : ∀ (q3 : Option Nat) (T : Int32), R1 xs nx 138 27 [some (vR 0 (some 0)), some (vR 26 (some k)), some (vI a3), some (vR 25 q3), none, none, none] [(vI T)] s = some (.inl (some (vI (worG (s.2.1 66 k) T (s.2.1 1 0) (s.2.1 55 k) a3))), s) := fun q3 T => by
    unfold worG
    rw [d_138_27, e0, ck]
    by_cases h8 : s.2.1 66 k = 8
    · rw [if_pos h8, if_neg (by rw [h8]; decide)]
      split
      · rw [d_138_57, d_138_58, e0, if_pos h8, h79]
      · rw [d_138_58, e0, if_pos h8, h79]
    · rw [if_neg h8]
      by_cases h7 : s.2.1 66 k = 7
      · rw [if_pos h7, if_pos h7, d_138_57, d_138_58, e0, if_neg h8, if_pos rfl]
      · rw [if_neg h7, if_neg h7]
        by_cases h9 : s.2.1 1 0 - T < 72
        · rw [if_pos h9, if_pos h9, d_138_57, d_138_58, e0, if_neg h8, if_pos rfl]
        · rw [if_neg h9, if_neg h9, d_138_58, e0, if_neg h8, if_neg n10, h79]
  rw [d_138_0, r72 (by have := len10 hJ hk; omega)]
  unfold hrd
  cases (fL s.1 10 k).getLast? with
  | none =>
    simp only [bR, ntg_self, nz_none]
    exact h27 _ _
  | some b =>
    simp only [bR, ntg_self, nz_some, nn_some]
    exact h27 _ _
theorem late139 {i k : Nat} {s : nS} (hJ : nJ κ i s.1 s.2.1) (hk : k < fN s.1 26) : R1 xs nx 139 0 [some (vR 0 (some 0)), some (vR 26 (some k)), none] [] s = some (.inl (some (vI (worL (s.2.1 66 k) (s.2.1 63 k) (s.2.1 59 k) (fI s.1 9 k 2) (s.2.1 1 0)))), s) := by
  obtain ⟨e0, -⟩ := kind8 hJ hk
  have ck := (nJ_ck hJ).1
  have hP := hJ.2.2.2.2.2.1 k hk
  have e16 := hP.2.2.2.2.2.2.2.2.2.2.2.2.2.2.2.2.1.1
  have e14 := hP.2.2.2.2.2.2.2.2.2.2.2.2.1.1
  unfold worL
  have h26 : ∀ e : Int32, R1 xs nx 139 26 [some (vR 0 (some 0)), some (vR 26 (some k)), none] [(vI e)] s = some (.inl (some (vI (if s.2.1 63 k = 0 then (if s.2.1 59 k < e then (if (50 : Int32) < 2 * (e - s.2.1 59 k) then 50 else 2 * (e - s.2.1 59 k)) else 0) else 0))), s) := fun e => by
    rw [d_139_26, e16, e14]
    by_cases h1 : s.2.1 63 k = 0
    · rw [if_pos h1, if_pos h1]
      by_cases h2 : s.2.1 59 k < e
      · rw [if_pos h2, if_pos h2]
      · rw [if_neg h2, if_neg h2]
    · rw [if_neg h1, if_neg h1]
  rw [d_139_0, e0, ck]
  by_cases h7 : s.2.1 66 k = 7
  · rw [if_pos h7, if_pos h7, h26]
  · rw [if_neg h7, if_neg h7, h26]
theorem gone236 {i k : Nat} {a3 : Int32} {c : nC} {m : nM} (hJ : nJ κ i c m) (hk : k < fN c 26) {s : nS} (hs : s.2.1 = m) : R1 xs nx 236 0 [some (vR 1 (some 0)), some (vI (iN k)), some (vI 0), some (vI a3), none, none, none, none] [] s = some (.inl (some (vI (worG (m 66 k) (hrd c k) (m 1 0) (m 55 k) a3))), s) := by
  have h40 := k40 hJ hk
  have hin : mIn (iN k) 40 = true := iN_in40 h40
  have en : (iN k).toNatClampNeg = k := i32_nat (by omega)
  have e61 := (hJ.2.2.2.2.2.1 k hk).2.2.2.2.2.2.2.2.2.2.2.2.2.1.1
  obtain ⟨o, ho, hL⟩ := last235 (xs := xs) (nx := nx) hJ hk (s := s) (by rw [hs]) (by rw [hs])
  have h400 := (nJ_69 hJ).2
  have h90 : ∀ (a4 a5 b : Int32), R1 xs nx 236 90 [some (vR 1 (some 0)), some (vI (iN k)), some (vI 0), some (vI a3), some (vI a4), some (vI a5), none, none] [(vI b)] s = some (.inl (some (vI (if b = 0 then 0 else mosG (m 55 k) a3))), s) := fun a4 a5 b => by
    rw [d_236_90, if_pos hin, en, hs]
    unfold mosG
    by_cases h5 : (500 : Int32) < m 55 k
    · rw [if_pos h5, d_236_116, if_pos h5]
      by_cases hb : b = 0
      · rw [if_pos hb, if_pos hb]
      · rw [if_neg hb, if_neg hb]
        split <;> rfl
    · rw [if_neg h5, if_pos hin, d_236_116, if_neg h5]
      by_cases hb : b = 0
      · rw [if_pos hb, if_pos hb]
      · rw [if_neg hb, if_neg hb]
        split <;> rfl
  have h49 : ∀ (a4 T : Int32), R1 xs nx 236 49 [some (vR 1 (some 0)), some (vI (iN k)), some (vI 0), some (vI a3), some (vI a4), none, none, none] [(vI T)] s = some (.inl (some (vI (worG (m 66 k) T (m 1 0) (m 55 k) a3))), s) := fun a4 T => by
    unfold worG
    rw [d_236_49, if_pos hin, en, hs]
    by_cases h8 : m 66 k = 8
    · rw [if_pos h8, if_pos h8, d_236_85, h90, if_neg n10]
    · rw [if_neg h8, if_neg h8, if_pos hin]
      by_cases h7 : m 66 k = 7
      · rw [if_pos h7, if_pos h7, d_236_89, h90, if_pos rfl]
      · rw [if_neg h7, if_neg h7]
        by_cases h9 : m 1 0 - T < 72
        · rw [if_pos h9, if_pos h9, d_236_89, h90, if_pos rfl]
        · rw [if_neg h9, if_neg h9, d_236_85, h90, if_neg n10]
  rw [d_236_0, if_pos rfl, ho, bI_some]
  unfold hrd
  cases o with
  | none =>
    have hL : fL c 10 k = [] := hL
    rw [if_pos (show oI none = (-1 : Int32) from rfl), d_236_33, if_pos hin, en, hs, h49, hL, ← e61]
    rfl
  | some j =>
    obtain ⟨hj, b, hb, hL⟩ := hL
    obtain ⟨x1, x2, x3, x4, x5, -⟩ := bok_at hJ hb
    have hjn : mIn (iN j) 400 = true := iN_in (by omega) (by decide)
    have ej : (iN j).toNatClampNeg = j := i32_nat (by omega)
    simp only [show oI (some j) = iN j from rfl]
    rw [if_neg (iN_ne1 (by omega)), if_pos hjn, if_pos hin, ej, en, hs, hL, ← x4, ← e61]
    dsimp only
    by_cases h : fI c 25 b 2 < fI c 26 k 4
    · rw [if_pos h, d_236_33, if_pos hin, en, hs, h49, ← e61, if_neg]
      intro z
      rw [i32_ltt] at z h
      omega
    · rw [if_neg h, if_pos hjn, h49]
      by_cases h' : fI c 26 k 4 < fI c 25 b 2
      · rw [if_pos h']
      · have : fI c 26 k 4 = fI c 25 b 2 := by
          apply Int32.toInt_inj.mp
          rw [i32_ltt] at h h'
          omega
        rw [if_neg h', this]
theorem late236 {i k : Nat} {a3 : Int32} {c : nC} {m : nM} (hJ : nJ κ i c m) (hk : k < fN c 26) {s : nS} (hs : s.2.1 = m) : R1 xs nx 236 0 [some (vR 1 (some 0)), some (vI (iN k)), some (vI 1), some (vI a3), none, none, none, none] [] s = some (.inl (some (vI (worL (m 66 k) (m 63 k) (m 59 k) (fI c 9 k 2) (m 1 0)))), s) := by
  have h40 := k40 hJ hk
  have hin : mIn (iN k) 40 = true := iN_in40 h40
  have en : (iN k).toNatClampNeg = k := i32_nat (by omega)
  have h165 : ∀ e : Int32, R1 xs nx 236 165 [some (vR 1 (some 0)), some (vI (iN k)), some (vI 1), some (vI a3), none, none, none, none] [(vI e)] s = some (.inl (some (vI (if m 63 k = 0 then (if m 59 k < e then (if (50 : Int32) < 2 * (e - m 59 k) then 50 else 2 * (e - m 59 k)) else 0) else 0))), s) := fun e => by
    rw [d_236_165, if_pos hin, en, hs]
    by_cases h1 : m 63 k = 0
    · rw [if_pos h1, if_pos h1, if_pos hin]
      by_cases h2 : m 59 k < e
      · rw [if_pos h2, if_pos h2, if_pos hin, d_236_202]
        split <;> rfl
      · rw [if_neg h2, if_neg h2, d_236_187, d_236_202, if_neg (by decide)]
    · rw [if_neg h1, if_neg h1, d_236_187, d_236_202, if_neg (by decide)]
  unfold worL
  rw [d_236_0, if_neg n10, if_pos hin, en, hs]
  by_cases h7 : m 66 k = 7
  · have h74 : m 74 k = fI c 9 k 2 := by
      obtain ⟨-, -, -, -, y⟩ := hJ.2.2.2.2.2.2.2.1 k hk
      rcases y with ⟨z, -⟩ | ⟨z, -⟩ | ⟨z, -⟩ | ⟨z, -⟩ | ⟨z, -⟩ | ⟨z, -⟩ | ⟨z, -⟩ | ⟨z, -, -, -, -, -, -, z1⟩ | ⟨z, -⟩
      rotate_right 2
      · exact z1
      all_goals (rw [h7] at z; exact absurd z (by decide))
    rw [if_pos h7, if_pos hin, h165, if_pos h7, h74]
  · rw [if_neg h7, h165, if_neg h7]
theorem nIn0 {x : Int32} {b : Nat} (hb : b < 100000) (h : nIn x 0 b) : ((0 : Int32) < x ↔ x ≠ 0) := by
  obtain ⟨n, -, h1, rfl⟩ := h
  rw [show (0 : Int32) = iN 0 from rfl, iN_lt (by omega) (by omega), ne_eq, iN_inj (by omega) (by omega)]
  omega
/-- a claim is paid -/
theorem claimJ {i k u : Nat} {c : nC} {m : nM} {v g : Int32} (hJ : nJ κ i c m) (hk : k < fN c 26) (hv : nIn v 0 500) (hg : g = 0 ∨ g = 1) (hu : m 49 k = iN u) (hq : m 66 k = 7 → g = 0) :
    nJ κ i (uI 22 u 1 (m 90 u + v) (uI 8 k 4 g (uI 8 k 3 v c))) (uM 90 u (m 90 u + v) (uM 77 k g (uM 76 k v m))) := by
  refine nJ_acct ?_
  have hP := hJ.2.2.2.2.2.1 k hk
  have hM := hJ.2.2.2.2.2.2.2.2.2.2.1 k hk
  refine nJ_par (k := k) hJ (fun t t1 t2 => by rw [fI_ne t2, fI_ne t2]) (fun t t1 => rfl) (fun t t1 => rfl) rfl (fun t x j h => by rw [fI_n h, fI_n h]) (fun t x j h => rfl) (fun t x j h => rfl) (fun t h => by rw [uM_ne (by omega), uM_ne (by omega)]) (fun t x h => by rw [uM_k h, uM_k h]) hk ?_ ?_ ?_ ?_
  · obtain ⟨y1, y2, y3, y4, y5, y6, y7, y8, y9, y10, y11, y12, y13, y14, y15, y16, y17, y18⟩ := hP
    unfold nPar
    simp (disch := decide) only [fI_k, fX_k, fP_k, fI_uP, fI_uX, fX_uP, fX_uI, fP_uX, fP_uI, fI_ne, uM_ne, uM1_ne, uM_kk]
    exact ⟨y1, y2, y3, y4, y5, y6, y7, y8, y9, ⟨by trivial, hv⟩, y11, y12, y13, y14, y15, y16, y17, y18⟩
  · unfold nMon at hM ⊢
    simp (disch := decide) only [fI_k, fI_ne, fI_uP, fI_uX, uM_ne, uM_kk]
    obtain ⟨z1, z2, z3, z4, z5⟩ := hM
    exact ⟨hg, hg, fun _ => by trivial, hq, z5⟩
  · exact Or.inl ⟨by simp (disch := decide) only [uM_ne], by simp (disch := decide) only [uM_ne]⟩
  · exact Or.inl ⟨by simp (disch := decide) only [uM_ne], by simp (disch := decide) only [uM_ne], by simp (disch := decide) only [uM_ne], by simp (disch := decide) only [uM_ne]⟩
/-- claim -/
abbrev zP22 (κ : kP) (a1 a2 : Int32) (c : nC) (m : nM) (κ' : kP) (c' : nC) (m' : nM) (v : Int32) : Prop := (∃ k u, k < fN c 26 ∧ a1 = iN k ∧ u < 4 ∧ m 49 k = iN u ∧ ¬ a2 < 0 ∧ ¬ 1 < a2 ∧ m 76 k = 0 ∧ nIn v 1 500 ∧ (a2 = 1 → nIn v 1 50) ∧ m' 76 k = v ∧ m' 90 u = m 90 u + v) ∧ κ' = κ ∧ m' 1 0 = m 1 0
abbrev zF22 (a1 a2 : Int32) (c : nC) (m : nM) (E : Nat) : Prop := f3 (¬ (∃ k, k < fN c 26 ∧ a1 = iN k)) ((∃ k, k < fN c 26 ∧ a1 = iN k) ∧ (a2 < 0 ∨ 1 < a2)) ((∃ k, k < fN c 26 ∧ a1 = iN k) ∧ ¬ a2 < 0 ∧ ¬ 1 < a2) E
theorem op22 : ∀ i, i < 512 → ∀ (a1 a2 a3 : Int32), (a3 = 0 ∨ a3 = 1) → nDoes κ (zP22 κ a1 a2) (zF22 a1 a2) i [(0, 1), (1, 2), (2, 3)] (fun s => R1 xs nx 140 0 [some (vR 0 (some 0)), some (vI a1), some (vI a2), some (vI a3), none, none] [] s) (fun s => R1 xs nx 237 0 [some (vR 1 (some 0)), some (vI a1), some (vI a2), some (vI a3), none, none, none] [] s) := by
  intro i hi a1 a2 a3 hb s hJ
  rcases idx97 (xs := xs) (nx := nx) hJ a1 with ⟨h1, h2⟩ | ⟨k, hk, ea, hin, en, h1, h2⟩
  · refine nFail (hF := nd97 hJ rfl (h1 s rfl)) (E := 0) (e := 1) (v := 0) hJ (by simp only [d_140_0, h1 s rfl, bR, hE]) (fun z => ?_) rfl n10
    rcases wi79 (xs := xs) (nx := nx) a2 0 1 with ⟨-, h4, -⟩ | ⟨-, h4, -, -⟩
    · simp only [d_237_0, h2 (s.1, s.2.1, z) rfl, h4, bI, if_true, d_237_44, d_237_45, d_237_76, r172_1, n10, if_false]
    · simp only [d_237_0, h2 (s.1, s.2.1, z) rfl, h4, bI, if_true, d_237_44, d_237_45, d_237_76, r172_1, n10, if_false]
  · subst ea
    have h40 := k40 hJ hk
    have hP := hJ.2.2.2.2.2.1 k hk
    obtain ⟨⟨u, u1, u2, u3⟩, -, -, -, -, -, ⟨-, i55⟩, -, -, ⟨e76, i76⟩, -, -, ⟨-, i59⟩, -⟩ := hP
    have hA := hJ.2.2.2.2.2.2.2.2.2.2.2.2.2.2.1 u u1
    have hu4 : mIn (s.2.1 49 k) 4 = true := by rw [u3]; exact mIn_iff.mpr ⟨i32_pos (by omega), by rw [i32_nat (by omega)]; omega⟩
    have hun : (s.2.1 49 k).toNatClampNeg = u := by rw [u3]; exact i32_nat (by omega)
    have key : ∀ (v g : Int32), nIn v 0 500 → (a2 = 1 → nIn v 0 50) → (¬ a2 < 0 ∧ ¬ 1 < a2) → (g = 0 ∨ g = 1) → ((a2 = 0 ∧ g = 1) ∨ (¬ a2 = 0 ∧ g = 0)) → (v ≠ 0 → s.2.1 66 k = 7 → g = 0) →
        R1 xs nx 140 0 [some (vR 0 (some 0)), some (vI (iN k)), some (vI a2), some (vI a3), none, none] [] s = R1 xs nx 140 44 [some (vR 0 (some 0)), some (vI (iN k)), some (vI a2), some (vI a3), some (vR 26 (some k)), none] [(vI v)] s →
        (∀ c9 z, R1 xs nx 174 0 [some (vI a2), some (vI 0), some (vI 1)] [] (c9, s.2.1, z) = some (.inl (some (vI 1)), (c9, s.2.1, z))) →
        (∀ c9 z, R1 xs nx 236 0 [some (vR 1 (some 0)), some (vI (iN k)), some (vI a2), some (vI a3), none, none, none, none] [] (c9, s.2.1, z) = some (.inl (some (vI v)), (c9, s.2.1, z))) →
        ∃ (κ' : kP) (c' : nC) (m' : nM) (v : Int32), nJ κ' (i + 1) c' m' ∧ (∀ z, R1 xs nx 237 0 [some (vR 1 (some 0)), some (vI (iN k)), some (vI a2), some (vI a3), none, none, none] [] (c', s.2.1, z) = some (.inl (some (vI v)), (c', m', z))) ∧
          ((R1 xs nx 140 0 [some (vR 0 (some 0)), some (vI (iN k)), some (vI a2), some (vI a3), none, none] [] s = some (.inl (some (vI v)), (c', s.2)) ∧ m' 1 76 = 0 ∧ zP22 κ (iN k) a2 s.1 s.2.1 κ' c' m' v) ∨ ∃ E, R1 xs nx 140 0 [some (vR 0 (some 0)), some (vI (iN k)), some (vI a2), some (vI a3), none, none] [] s = some (.inr E, (c', s.2.1, s.2.2.1 + 1, s.2.2.2)) ∧ nHl [(0, 1), (1, 2), (2, 3)] E = some (m' 1 76) ∧ m' 1 76 ≠ 0 ∧ c' = s.1 ∧ κ' = κ ∧ zF22 (iN k) a2 s.1 s.2.1 E) := by
      intro v g hv hv50 ha2 hg hag hq hc hm1 hm2
      by_cases hp : s.2.1 76 k = 0
      · by_cases h0 : v = 0
        · exact nFail (hF := ⟨⟨k, hk, rfl⟩, ha2⟩) (E := 2) (e := 3) (v := 0) hJ (by rw [hc, d_140_44, if_neg (by rw [h0]; decide), d_140_66, d_140_67, c84_0]; rfl) (fun z => by simp only [d_237_0, h2 (s.1, s.2.1, z) rfl, hm1, bI, n10, if_false, hin, en, hp, if_true, hm2, d_237_45, h0, d_237_76, r172_3]) rfl n30
        · have hpos := (nIn0 (by decide) hv).mpr h0
          have hT := claimJ (nJ_76 (x := 0) hJ) hk hv hg (u := u) (by rw [uM_ne (by decide)]; exact u3) (by rw [uM_ne (by decide)]; exact hq h0)
          rw [uM_ne (by decide)] at hT
          have hpv : ∀ {b : Nat}, nIn v 0 b → nIn v 1 b := fun ⟨n, n1, n2, n3⟩ => ⟨n, by
            rcases Nat.eq_zero_or_pos n with z | z
            · exact absurd (by rw [n3, z]; rfl) h0
            · exact z, n2, n3⟩
          refine nDone (hP := ⟨⟨k, u, hk, rfl, u1, u3, ha2.1, ha2.2, hp, hpv hv, fun z => hpv (hv50 z), by simp (disch := decide) only [uM_ne, uM_kk], by rw [uM_kk]⟩, rfl, by simp (disch := decide) only [uM_ne, uM1_ne]⟩) (v := v) hT ?_ (fun z => ?_) ?_
          · have hcc : R1 xs nx 140 67 [some (vR 0 (some 0)), some (vI (iN k)), some (vI a2), some (vI a3), some (vR 26 (some k)), some (vI v)] [(vI (1 : Int32))] s = R1 xs nx 140 94 [some (vR 0 (some 0)), some (vI (iN k)), some (vI a2), some (vI a3), some (vR 26 (some k)), some (vI v)] [(vI g), (vR 8 (some k))] (uI 8 k 3 v s.1, s.2) := by
              rw [d_140_67, c84_1, bV_none, nn_some, nn_some]
              rcases hag with ⟨w1, w2⟩ | ⟨w1, w2⟩
              · rw [if_pos w1, w2]
              · rw [if_neg w1, w2]
            rw [hc, d_140_44, if_pos hpos, nn_some, e76, if_pos hp, hcc, d_140_94, if_pos hg, nn_some]
            show nn (fP s.1 26 k 8) _ = _
            rw [u2, nn_some]
            dsimp only
            rw [fI_ne (by decide), hA]
          · have hmm : ∀ mm : nM, (if a2 = 0 then R1 xs nx 237 106 [some (vR 1 (some 0)), some (vI (iN k)), some (vI a2), some (vI a3), some (vI 1), some (vI 1), some (vI v)] [(vI (1 : Int32)), (vI (iN k)), (vR 77 (some 0))] (uI 22 u 1 (s.2.1 90 u + v) (uI 8 k 4 g (uI 8 k 3 v s.1)), mm, z) else R1 xs nx 237 106 [some (vR 1 (some 0)), some (vI (iN k)), some (vI a2), some (vI a3), some (vI 1), some (vI 1), some (vI v)] [(vI (0 : Int32)), (vI (iN k)), (vR 77 (some 0))] (uI 22 u 1 (s.2.1 90 u + v) (uI 8 k 4 g (uI 8 k 3 v s.1)), mm, z)) = R1 xs nx 237 106 [some (vR 1 (some 0)), some (vI (iN k)), some (vI a2), some (vI a3), some (vI 1), some (vI 1), some (vI v)] [(vI g), (vI (iN k)), (vR 77 (some 0))] (uI 22 u 1 (s.2.1 90 u + v) (uI 8 k 4 g (uI 8 k 3 v s.1)), mm, z) := by
              intro mm
              rcases hag with ⟨w1, w2⟩ | ⟨w1, w2⟩
              · rw [if_pos w1, w2]
              · rw [if_neg w1, w2]
            simp only [d_237_0, h2 (_, s.2.1, z) rfl, hm1, bI, n10, if_false, hin, en, hp, if_true, hm2, d_237_45, h0, d_237_76, r172_0, hmm]
            rw [d_237_106, if_pos ⟨hin, hg⟩, if_pos hin, en]
            simp (disch := decide) only [uM_ne, hu4, if_true, hun]
          · simp (disch := decide) only [uM_ne, uM_self]
      · refine nFail (hF := ⟨⟨k, hk, rfl⟩, ha2⟩) (E := 2) (e := 3) (v := 0) hJ ?_ (fun z => by simp only [d_237_0, h2 (s.1, s.2.1, z) rfl, hm1, bI, n10, if_false, hin, en, hp, if_true, d_237_44, d_237_45, d_237_76, r172_3]) rfl n30
        rw [hc, d_140_44]
        by_cases h0 : 0 < v
        · rw [if_pos h0, nn_some, e76, if_neg hp, d_140_66, d_140_67, c84_0]
          rfl
        · rw [if_neg h0, d_140_66, d_140_67, c84_0]
          rfl
    rcases wi79 (xs := xs) (nx := nx) a2 0 1 with ⟨-, h4, h5⟩ | ⟨-, h4, h5, h6⟩
    · have w0 : ¬ a2 = 0 := by
        intro z; rw [z] at h5
        rcases h5 with h | h
        · exact absurd h (by decide)
        · exact absurd h (by decide)
      have w1 : ¬ a2 = 1 := by
        intro z; rw [z] at h5
        rcases h5 with h | h
        · exact absurd h (by decide)
        · exact absurd h (by decide)
      exact nFail (hF := ⟨⟨k, hk, rfl⟩, h5⟩) (E := 1) (e := 2) (v := 0) hJ (by simp only [d_140_0, h1 s rfl, bR, ntg_self, w0, w1, if_false, d_140_21, c80_0, bV, hE]) (fun z => by simp only [d_237_0, h2 (s.1, s.2.1, z) rfl, h4, bI, n10, if_false, if_true, d_237_44, d_237_45, d_237_76, r172_2]) rfl n20
    · obtain ⟨n, -, n1, rfl⟩ := nIn_of (x := a2) (a := 0) (b := 1) (by decide) h5 h6
      have hs2 := hJ.2.2.2.2.2.2.2.1 k hk
      by_cases e : n = 0
      · subst e
        refine key (worG (s.2.1 66 k) (hrd s.1 k) (s.2.1 1 0) (s.2.1 55 k) a3) 1 (worG_in i55) (fun z => absurd z (by decide)) ⟨h5, h6⟩ (Or.inr rfl) (Or.inl ⟨rfl, rfl⟩) ?_ ?_ (fun c9 z => h4 _) (fun c9 z => gone236 hJ hk rfl)
        · intro hz h7
          exfalso
          apply hz
          unfold worG
          rw [if_neg (by rw [h7]; decide), if_pos h7]
        · simp only [d_140_0, h1 s rfl, bR, ntg_self]
          rw [if_pos (show iN 0 = (0 : Int32) from rfl), d_140_16, d_140_21, c80_1, bV_none, if_pos (show iN 0 = (0 : Int32) from rfl), gone138 hJ hk]
          rfl
      · have e1 : n = 1 := by omega
        subst e1
        refine key (worL (s.2.1 66 k) (s.2.1 63 k) (s.2.1 59 k) (fI s.1 9 k 2) (s.2.1 1 0)) 0 (worL_in i59 hs2.2.2.1 (nJ_ck hJ).2) (fun _ => worL_50 i59 hs2.2.2.1 (nJ_ck hJ).2) ⟨h5, h6⟩ (Or.inl rfl) (Or.inr ⟨n10, rfl⟩) (fun _ _ => rfl) ?_ (fun c9 z => h4 _) (fun c9 z => late236 hJ hk rfl)
        simp only [d_140_0, h1 s rfl, bR, ntg_self]
        rw [if_neg (show ¬ iN 1 = (0 : Int32) from n10), if_pos (show iN 1 = (1 : Int32) from rfl), d_140_16, d_140_21, c80_1, bV_none, if_neg (show ¬ iN 1 = (0 : Int32) from n10), late139 hJ hk]
        rfl
end OQE
end KAP
