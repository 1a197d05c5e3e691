/-! ===== forward, giveBack, resolve, duty ===== -/
section OPT
variable {xs : Nat → Int32} {nx : Nat}
/-- may it turn -/
theorem bound66 {i : Nat} {c : nC} {m : nM} (hJ : nJ i c m) {k : Nat} (hk : k < fN c 26) :
    (m 66 k ≠ 4 ∧ m 66 k ≠ 5 ∧ m 66 k ≠ 7 ∧ m 66 k ≠ 8 ∧ (∀ s : nS, s.1 = c → R1 xs nx 66 0 [some (vR 26 (some k))] [] s = some (.inl (some (vI 1)), s)) ∧ ∀ s : nS, s.2.1 66 = m 66 → R1 xs nx 228 0 [some (vR 1 (some 0)), some (vI (iN k))] [] s = some (.inl (some (vI 0)), s)) ∨
    ((∀ s : nS, s.1 = c → R1 xs nx 66 0 [some (vR 26 (some k))] [] s = some (.inl (some (vI 0)), s)) ∧ ∀ s : nS, s.2.1 66 = m 66 → R1 xs nx 228 0 [some (vR 1 (some 0)), some (vI (iN k))] [] s = some (.inl (some (vI 1)), s)) := by
  obtain ⟨e, -⟩ := kind8 hJ hk
  have h40 := k40 hJ hk
  by_cases h4 : m 66 k = 4
  · refine Or.inr ⟨fun s hs => ?_, fun s hs => ?_⟩
    · rw [d_66_0, hs, e, if_pos h4]
    · rw [d_228_0, if_pos (iN_in40 h40), i32_nat (by omega), hs, if_pos h4]
  · by_cases h5 : m 66 k = 5
    · refine Or.inr ⟨fun s hs => ?_, fun s hs => ?_⟩
      · rw [d_66_0, hs, e, if_neg h4, if_pos h5]
      · rw [d_228_0, if_pos (iN_in40 h40), i32_nat (by omega), hs, if_neg h4, if_pos (iN_in40 h40), if_pos h5]
    · rcases over65 (xs := xs) (nx := nx) hJ hk with ⟨h7, h8, o1, o2⟩ | ⟨h78, o1, o2⟩
      · refine Or.inl ⟨h4, h5, h7, h8, fun s hs => ?_, fun s hs => ?_⟩
        · rw [d_66_0, hs, e, if_neg h4, if_neg h5, o1 s hs, bI_some, if_pos rfl]
        · rw [d_228_0, if_pos (iN_in40 h40), i32_nat (by omega), hs, if_neg h4, if_pos (iN_in40 h40), if_neg h5, o2 s hs, bI_some, if_pos rfl]
      · refine Or.inr ⟨fun s hs => ?_, fun s hs => ?_⟩
        · rw [d_66_0, hs, e, if_neg h4, if_neg h5, o1 s hs, bI_some, if_neg n10]
        · rw [d_228_0, if_pos (iN_in40 h40), i32_nat (by omega), hs, if_neg h4, if_pos (iN_in40 h40), if_neg h5, o2 s hs, bI_some, if_neg n10]
theorem bV_none {s : nS} {K : nS → Option nOut} {h : Nat → nS → Option nOut} : bV (some (.inl none, s)) K h = K s := rfl
theorem mMv0_76 {k : Nat} {w a : Int32} {m : nM} : mMv k w a m 1 76 = m 1 76 := mMv_1 (by decide)
/-- a parcel is sorted anew, if it was sorted here -/
theorem turnJ {i k : Nat} {c : nC} {m : nM} (hJ : nJ i (uI 26 k 15 0 (uP 26 k 11 none c)) m) (hi : i < 100000) (hk : k < fN c 26) (h4 : m 66 k ≠ 4) (h7 : m 66 k ≠ 7) :
    ∃ (c' : nC) (m' : nM), nJ (i + 1) c' m' ∧ fN c' = fN c ∧ (∀ z, R1 xs nx 130 0 [some (vR 0 (some 0)), some (vR 26 (some k))] [] (c, z) = some (.inl none, (c', z))) ∧ (∀ c9 z, R1 xs nx 227 0 [some (vR 1 (some 0)), some (vI (iN k))] [] (c9, m, z) = some (.inl none, (c9, m', z))) ∧ m' 1 76 = m 1 76 := by
  obtain ⟨e, -⟩ := kind8 hJ hk
  have h40 := k40 hJ hk
  have hin : mIn (iN k) 40 = true := iN_in40 h40
  have en : (iN k).toNatClampNeg = k := i32_nat (by omega)
  have e' : fI (uI 26 k 15 0 (uP 26 k 11 none c)) 9 k 0 = m 66 k := e
  by_cases h1 : m 66 k = 1
  · obtain ⟨l, l1, l2, l3⟩ := sty1 hJ hk h1
    obtain ⟨⟨x1, x2⟩, -⟩ := hJ.2.2.2.1.1 l l1
    have h12 := hJ.1.1.1
    refine ⟨_, _, put0 hJ hi hk h4 h7 x1, cMv_N, fun z => ?_, fun c9 z => ?_, mMv0_76⟩
    · rw [d_130_0, d_71_0, bV_none]
      dsimp only
      rw [e', if_pos h1, d_130_33, r127 hJ hk x1 l3]
      rfl
    · rw [d_227_0, if_pos hin, en]
      dsimp only
      rw [if_pos h1, if_pos hin]
      simp only [l2]
      rw [if_pos (mIn_iff.mpr ⟨i32_pos (by omega), by rw [i32_nat (by omega)]; omega⟩), i32_nat (by omega), x2, r191 h40]
      rfl
  · by_cases h3 : m 66 k = 3
    · obtain ⟨d, l1, l2, l3⟩ := sty3 hJ hk h3
      refine ⟨_, _, put0 hJ hi hk h4 h7 l1, cMv_N, fun z => ?_, fun c9 z => ?_, mMv0_76⟩
      · rw [d_130_0, d_71_0, bV_none]
        dsimp only
        rw [e', if_neg h1, if_pos h3, d_130_33, r127 hJ hk l1 l3]
        rfl
      · rw [d_227_0, if_pos hin, en]
        dsimp only
        rw [if_neg h1, if_pos hin, if_pos h3, d_227_59, if_pos hin, en]
        dsimp only
        rw [l2, r191 h40]
        rfl
    · by_cases h6 : m 66 k = 6
      · obtain ⟨d, l1, l2, l3, l4, l5⟩ := sty6 hJ hk h6
        have l4' : fI (uI 26 k 15 0 (uP 26 k 11 none c)) 9 k 8 = m 73 k := l4
        by_cases h0 : m 73 k = 0
        · refine ⟨_, _, put0 hJ hi hk h4 h7 l1, cMv_N, fun z => ?_, fun c9 z => ?_, mMv0_76⟩
          · rw [d_130_0, d_71_0, bV_none]
            dsimp only
            rw [e', if_neg h1, if_neg h3, d_67_0]
            dsimp only
            rw [e', if_pos h6, l4', if_pos h0, bI_some, if_neg n10, d_130_33, r127 hJ hk l1 l3]
            rfl
          · rw [d_227_0, if_pos hin, en]
            dsimp only
            rw [if_neg h1, if_pos hin, if_neg h3, if_pos hin, if_pos h6, if_pos hin, if_pos h0, d_227_59, if_pos hin, en]
            dsimp only
            rw [l2, r191 h40]
            rfl
        · refine ⟨_, _, nJ_up hJ, rfl, fun z => ?_, fun c9 z => ?_, rfl⟩
          · rw [d_130_0, d_71_0, bV_none]
            dsimp only
            rw [e', if_neg h1, if_neg h3, d_67_0]
            dsimp only
            rw [e', if_pos h6, l4', if_neg h0, bI_some, if_pos rfl]
          · rw [d_227_0, if_pos hin, en]
            dsimp only
            rw [if_neg h1, if_pos hin, if_neg h3, if_pos hin, if_pos h6, if_pos hin, if_neg h0]
      · refine ⟨_, _, nJ_up hJ, rfl, fun z => ?_, fun c9 z => ?_, rfl⟩
        · rw [d_130_0, d_71_0, bV_none]
          dsimp only
          rw [e', if_neg h1, if_neg h3, d_67_0]
          dsimp only
          rw [e', if_neg h6, bI_some, if_pos rfl]
        · rw [d_227_0, if_pos hin, en]
          dsimp only
          rw [if_neg h1, if_pos hin, if_neg h3, if_pos hin, if_neg h6]
theorem op17 : ∀ i, i < 512 → ∀ (a1 a2 : Int32), nDoes nJ i [(0, 1), (2, 2)] (fun s => R1 xs nx 131 0 [some (vR 0 (some 0)), some (vI a1), some (vI a2), none, none] [] s) (fun s => R1 xs nx 229 0 [some (vR 1 (some 0)), some (vI a1), some (vI a2), none] [] s) := by
  intro i hi a1 a2 s hJ
  rcases idx97 (xs := xs) (nx := nx) hJ a1 with ⟨h1, h2⟩ | ⟨k, hk, ea, hin, en, h1, h2⟩
  · exact nFail (E := 0) (e := 1) (v := 0) hJ (by simp only [d_131_0, h1 s rfl, bR, hE]) (fun z => by simp only [d_229_0, h2 (s.1, s.2.1, z) rfl, bI, if_true, d_229_20, d_229_21, d_229_44, r172_1, n10, if_false]) rfl n10
  · rcases idx90 (xs := xs) (nx := nx) hJ a2 with ⟨g1, g2⟩ | ⟨a, ha, eb, gin, gn, g1, g2⟩
    · exact nFail (E := 0) (e := 1) (v := 0) hJ (by simp only [d_131_0, h1 s rfl, bR, ntg_self, g1 s rfl, hE]) (fun z => by simp only [d_229_0, h2 (s.1, s.2.1, z) rfl, g2 (s.1, s.2.1, z) rfl, bI, if_true, d_229_20, d_229_21, d_229_44, r172_1, n10, if_false]) rfl n10
    · subst ea
      have h40 := k40 hJ hk
      rcases bound66 (xs := xs) (nx := nx) hJ hk with ⟨h4, h5, h7, h8, o1, o2⟩ | ⟨o1, o2⟩
      · have hP := hJ.2.2.2.2.2.1 k hk
        have hM := hJ.2.2.2.2.2.2.2.2.2.2.1 k hk
        have hT : nJ i (uI 26 k 15 0 (uP 26 k 11 none (uI 26 k 16 0 (uX 26 k 10 a s.1)))) (uM 60 k (-1) (uM 65 k 0 (uM 63 k 0 (uM 52 k a2 (uM 1 76 0 s.2.1))))) := by
          refine nJ_par (k := k) (nJ_76 (x := 0) hJ) (fun t t1 t2 => by rw [fI_ne t1, fI_uP, fI_ne t1, fI_uX]) (fun t t1 => fX_ne t1) (fun t t1 => fP_ne t1) rfl (fun t x j h => by rw [fI_n h, fI_uP, fI_n h, fI_uX]) (fun t x j h => fX_n h) (fun t x j h => fP_n h) (fun t h => by rw [uM_ne (by omega), uM_ne (by omega), uM_ne (by omega), uM_ne (by omega)]) (fun t x h => by rw [uM_k h, uM_k h, uM_k h, uM_k h]) hk ?_ ?_ ?_
          · obtain ⟨y1, y2, y3, y4, y5, y6, y7, y8, y9, y10, y11, y12, y13, y14, y15, y16, y17, y18⟩ := hP
            unfold nPar
            simp (disch := decide) only [fI_k, fX_k, fP_k, fI_uP, fI_uX, fX_uP, fX_uI, fP_uX, fP_uI, fI_ne, uM_ne, uM1_ne, uM_kk]
            exact ⟨y1, y2, y3, ⟨ha, eb⟩, y5, y6, y7, y8, y9, y10, y11, y12, y13, y14, by trivial, y16, ⟨by trivial, Or.inl rfl⟩, ⟨by trivial, 0, by omega, by omega, rfl⟩⟩
          · simp (disch := decide) only [fI_ne, fI_uP, fI_uX, uM_ne]
            exact hM
          · exact Or.inr ⟨by rw [uM_ne (by decide)]; exact h4, by rw [uM_ne (by decide)]; exact h7⟩
        obtain ⟨c', m', t1, t2, t3, t4, t5⟩ := turnJ (xs := xs) (nx := nx) hT (by omega) hk (by simp (disch := decide) only [uM_ne]; exact h4) (by simp (disch := decide) only [uM_ne]; exact h7)
        obtain ⟨D, -, -, d1, d2⟩ := tgt64 (xs := xs) (nx := nx) (k := k) t1 (by rw [t2]; exact hk)
        refine nDoneU (v := iN D) t1 ?_ (fun z => ?_) ?_
        · simp only [d_131_0, h1 s rfl, bR, ntg_self, nn_some, g1 s rfl, o1 s rfl, bI, c84_1, bV, t3, d1]
        · simp only [d_229_0, h2 (c', s.2.1, z) rfl, g2 (c', s.2.1, z) rfl, bI, n10, if_false, d_229_21, o2 (c', s.2.1, z) rfl, if_true, d_229_44, r172_0, hin, true_and, true_or, en, t4, bV, d2 c' m' z rfl rfl rfl rfl]
        · rw [t5]
          simp (disch := decide) only [uM_ne, uM_self]
      · exact nFail (E := 2) (e := 2) (v := 0) hJ (by simp only [d_131_0, h1 s rfl, bR, ntg_self, nn_some, g1 s rfl, o1 s rfl, bI, c84_0, bV, hE]) (fun z => by simp only [d_229_0, h2 (s.1, s.2.1, z) rfl, g2 (s.1, s.2.1, z) rfl, bI, n10, if_false, d_229_21, o2 (s.1, s.2.1, z) rfl, d_229_44, r172_2]) rfl n20
theorem op18 : ∀ i, i < 512 → ∀ (a1 : Int32), nDoes nJ i [(0, 1), (2, 2)] (fun s => R1 xs nx 132 0 [some (vR 0 (some 0)), some (vI a1), none] [] s) (fun s => R1 xs nx 230 0 [some (vR 1 (some 0)), some (vI a1), none] [] s) := by
  intro i hi a1 s hJ
  rcases idx97 (xs := xs) (nx := nx) hJ a1 with ⟨h1, h2⟩ | ⟨k, hk, ea, hin, en, h1, h2⟩
  · exact nFail (E := 0) (e := 1) (v := 0) hJ (by simp only [d_132_0, h1 s rfl, bR, hE]) (fun z => by simp only [d_230_0, h2 (s.1, s.2.1, z) rfl, bI, if_true, d_230_37, r172_1, n10, if_false]) rfl n10
  · subst ea
    have h40 := k40 hJ hk
    have hP := hJ.2.2.2.2.2.1 k hk
    have hM := hJ.2.2.2.2.2.2.2.2.2.2.1 k hk
    have e16 := hP.2.2.2.2.2.2.2.2.2.2.2.2.2.2.2.2.1.1
    by_cases h0 : s.2.1 63 k = 0
    · rcases bound66 (xs := xs) (nx := nx) hJ hk with ⟨h4, h5, h7, h8, o1, o2⟩ | ⟨o1, o2⟩
      · have hT : nJ i (uI 26 k 15 0 (uP 26 k 11 none (uI 26 k 16 1 s.1))) (uM 60 k (-1) (uM 65 k 0 (uM 63 k 1 (uM 1 76 0 s.2.1)))) := by
          refine nJ_par (k := k) (nJ_76 (x := 0) hJ) (fun t t1 t2 => by rw [fI_ne t1, fI_uP, fI_ne t1]) (fun t t1 => rfl) (fun t t1 => fP_ne t1) rfl (fun t x j h => by rw [fI_n h, fI_uP, fI_n h]) (fun t x j h => rfl) (fun t x j h => fP_n h) (fun t h => by rw [uM_ne (by omega), uM_ne (by omega), uM_ne (by omega)]) (fun t x h => by rw [uM_k h, uM_k h, uM_k h]) hk ?_ ?_ ?_
          · obtain ⟨y1, y2, y3, y4, y5, y6, y7, y8, y9, y10, y11, y12, y13, y14, y15, y16, y17, y18⟩ := hP
            unfold nPar
            simp (disch := decide) only [fI_k, fX_k, fP_k, fI_uP, fI_uX, fX_uP, fX_uI, fP_uX, fP_uI, fI_ne, uM_ne, uM1_ne, uM_kk]
            exact ⟨y1, y2, y3, y4, y5, y6, y7, y8, y9, y10, y11, y12, y13, y14, by trivial, y16, ⟨by trivial, Or.inr rfl⟩, ⟨by trivial, 0, by omega, by omega, rfl⟩⟩
          · simp (disch := decide) only [fI_ne, fI_uP, fI_uX, uM_ne]
            exact hM
          · exact Or.inr ⟨by rw [uM_ne (by decide)]; exact h4, by rw [uM_ne (by decide)]; exact h7⟩
        obtain ⟨c', m', t1, t2, t3, t4, t5⟩ := turnJ (xs := xs) (nx := nx) hT (by omega) hk (by simp (disch := decide) only [uM_ne]; exact h4) (by simp (disch := decide) only [uM_ne]; exact h7)
        obtain ⟨D, -, -, d1, d2⟩ := tgt64 (xs := xs) (nx := nx) (k := k) t1 (by rw [t2]; exact hk)
        refine nDoneU (v := iN D) t1 ?_ (fun z => ?_) ?_
        · simp only [d_132_0, h1 s rfl, bR, ntg_self, nn_some, e16, h0, if_true, o1 s rfl, bI, n10, if_false, d_132_25, c84_1, bV, t3, d1]
        · simp only [d_230_0, h2 (c', s.2.1, z) rfl, bI, n10, if_false, hin, en, h0, o2 (c', s.2.1, z) rfl, if_true, d_230_37, r172_0, d_203_0, true_and, or_true, t4, bV, d2 c' m' z rfl rfl rfl rfl]
        · rw [t5]
          simp (disch := decide) only [uM_ne, uM_self]
      · exact nFail (E := 2) (e := 2) (v := 0) hJ (by simp only [d_132_0, h1 s rfl, bR, ntg_self, nn_some, e16, h0, if_true, o1 s rfl, bI, d_132_24, d_132_25, c84_0, bV, hE]) (fun z => by simp only [d_230_0, h2 (s.1, s.2.1, z) rfl, bI, n10, if_false, hin, en, h0, o2 (s.1, s.2.1, z) rfl, if_true, d_230_32, d_230_37, r172_2]) rfl n20
    · exact nFail (E := 2) (e := 2) (v := 0) hJ (by simp only [d_132_0, h1 s rfl, bR, ntg_self, nn_some, e16, h0, if_false, d_132_24, d_132_25, c84_0, bV, hE]) (fun z => by simp only [d_230_0, h2 (s.1, s.2.1, z) rfl, bI, n10, if_false, hin, en, h0, if_true, d_230_32, d_230_37, r172_2]) rfl n20
end OPT
