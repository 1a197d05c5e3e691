/-! ===== resolve, duty ===== -/
section KAP
variable {κ : kP}
section OPU
variable {xs : Nat → Int32} {nx : Nat}
theorem iN_div {a b : Nat} (ha : a < 2 ^ 31) (hb : b < 2 ^ 31) : iN a / iN b = iN (a / b) := by
  have h := Nat.div_le_self a b
  apply Int32.toInt_inj.mp
  rw [Int32.toInt_div, iN_toInt ha, iN_toInt hb, iN_toInt (by omega), ← Int.ofNat_tdiv, Int.bmod_def]
  generalize a / b = q at h ⊢
  split <;> omega
theorem iN_mul {a b : Nat} : iN a * iN b = iN (a * b) := (Int32.ofNat_mul a b).symm
/-- resolve -/
abbrev zP15 (κ : kP) (a1 : Int32) (c : nC) (m : nM) (κ' : kP) (c' : nC) (m' : nM) (v : Int32) : Prop := (∃ k, k < fN c 26 ∧ a1 = iN k ∧ m 66 k ≠ 7 ∧ m 66 k ≠ 8 ∧ ¬ m 60 k = -1 ∧ m' 60 k = -1 ∧ v = iN (tgD c' m' k)) ∧ κ' = κ ∧ m' 1 0 = m 1 0
abbrev zF15 (a1 : Int32) (c : nC) (m : nM) (E : Nat) : Prop := f3 (¬ (∃ k, k < fN c 26 ∧ a1 = iN k)) False (∃ k, k < fN c 26 ∧ a1 = iN k) E
theorem op15 : ∀ i, i < 512 → ∀ (a1 a2 : Int32), (a2 = 0 ∨ a2 = 1) → nDoes κ (zP15 κ a1) (zF15 a1) i [(0, 1), (2, 2)] (fun s => R1 xs nx 128 0 [some (vR 0 (some 0)), some (vI a1), some (vI a2), none, none] [] s) (fun s => R1 xs nx 225 0 [some (vR 1 (some 0)), some (vI a1), some (vI a2), none] [] s) := by
  intro i hi a1 a2 hb s hJ
  rcases idx97 (xs := xs) (nx := nx) hJ a1 with ⟨h1, h2⟩ | ⟨k, hk, ea, hin, en, h1, h2⟩
  · exact nFail (hF := nd97 hJ rfl (h1 s rfl)) (E := 0) (e := 1) (v := 0) hJ (by simp only [d_128_0, h1 s rfl, bR, hE]) (fun z => by simp only [d_225_0, h2 (s.1, s.2.1, z) rfl, bI, if_true, d_225_38, r172_1, n10, if_false]) rfl n10
  · subst ea
    have h40 := k40 hJ hk
    have hP := hJ.2.2.2.2.2.1 k hk
    have hM := hJ.2.2.2.2.2.2.2.2.2.2.1 k hk
    have hN := hJ.1.2.1.1
    have key : ∀ (a : Nat) (cX : nC) (x : Int32) (q4 : Option Nat), nJ κ i (uP 26 k 11 none cX) (uM 60 k (-1) (uM 52 k x (uM 1 76 0 s.2.1))) → fN cX = fN s.1 → ∃ (c' : nC) (m' : nM) (D : Nat), nJ κ (i + 1) c' m' ∧ m' 1 76 = 0 ∧ (D = tgD c' m' k ∧ m' 60 k = -1 ∧ m' 1 0 = s.2.1 1 0) ∧
        (∀ z, R1 xs nx 128 47 [some (vR 0 (some 0)), some (vI (iN k)), some (vI a2), some (vR 26 (some k)), some (vR 24 q4)] [] (cX, z) = some (.inl (some (vI (iN D))), (c', z))) ∧
        ∀ c9 z, R1 xs nx 225 70 [some (vR 1 (some 0)), some (vI (iN k)), some (vI a2), some (vI 1)] [(vI x), (vI (iN k)), (vR 52 (some 0))] (c9, uM 1 76 0 s.2.1, z) = some (.inl (some (vI (iN D))), (c9, m', z)) := by
      intro a cX x q4 hT hNX
      have hkX : k < fN (uP 26 k 11 none cX) 26 := by show k < fN cX 26; rw [hNX]; exact hk
      obtain ⟨e, -⟩ := kind8 hT hkX
      simp (disch := decide) only [uM_ne] at e
      by_cases h6 : s.2.1 66 k = 6
      · obtain ⟨d, l1, l2, l3, l4, l5⟩ := sty6 hT hkX (by simp (disch := decide) only [uM_ne]; exact h6)
        simp (disch := decide) only [uM_ne] at l2 l4
        by_cases h0 : s.2.1 73 k = 0
        · have hp := put0 hT (by omega) hkX (by simp (disch := decide) only [uM_ne, h6]; decide) (by simp (disch := decide) only [uM_ne, h6]; decide) l1
          obtain ⟨D, -, eD, d1, d2⟩ := tgt64 (xs := xs) (nx := nx) (k := k) hp (by rw [cMv_N]; exact hkX)
          refine ⟨_, _, D, hp, ?_, ⟨eD, by rw [mMv_ne (by decide), uM_kk], by simp (disch := decide) only [uM_ne, uM1_ne, mMv_1]⟩, fun z => ?_, fun c9 z => ?_⟩
          · rw [mMv0_76]
            simp (disch := decide) only [uM_ne, uM_self]
          · rw [d_128_47, nn_some, nn_some, d_67_0]
            dsimp only
            rw [e, if_pos h6, l4, if_pos h0, bI_some, if_neg n10, r127 hT hkX l1 l3, bV_none, d_128_64, nn_some, d1]
            simp only [bR, ntg_self, nn_some]
          · rw [d_225_70]
            simp (disch := decide) only [hin, if_true, en, uM_ne, h6, h0, l2, r191 h40, bV_none, d_225_109]
            rw [d2 c9 _ z rfl rfl rfl rfl]
            rfl
        · obtain ⟨D, -, eD, d1, d2⟩ := tgt64 (xs := xs) (nx := nx) (k := k) (nJ_up hT) hkX
          refine ⟨_, _, D, nJ_up hT, ?_, ⟨eD, uM_kk, by simp (disch := decide) only [uM_ne, uM1_ne]⟩, fun z => ?_, fun c9 z => ?_⟩
          · simp (disch := decide) only [uM_ne, uM_self]
          · rw [d_128_47, nn_some, nn_some, d_67_0]
            dsimp only
            rw [e, if_pos h6, l4, if_neg h0, bI_some, if_pos rfl, d_128_64, nn_some, d1]
            simp only [bR, ntg_self, nn_some]
          · rw [d_225_70]
            simp (disch := decide) only [hin, if_true, en, uM_ne, h6, h0, if_false, d_225_109]
            rw [d2 c9 _ z rfl rfl rfl rfl]
            rfl
      · obtain ⟨D, -, eD, d1, d2⟩ := tgt64 (xs := xs) (nx := nx) (k := k) (nJ_up hT) hkX
        refine ⟨_, _, D, nJ_up hT, ?_, ⟨eD, uM_kk, by simp (disch := decide) only [uM_ne, uM1_ne]⟩, fun z => ?_, fun c9 z => ?_⟩
        · simp (disch := decide) only [uM_ne, uM_self]
        · rw [d_128_47, nn_some, nn_some, d_67_0]
          dsimp only
          rw [e, if_neg h6, bI_some, if_pos rfl, d_128_64, nn_some, d1]
          simp only [bR, ntg_self, nn_some]
        · rw [d_225_70]
          simp (disch := decide) only [hin, if_true, en, uM_ne, h6, if_false, d_225_109]
          rw [d2 c9 _ z rfl rfl rfl rfl]
          rfl
    obtain ⟨y1, y2, y3, y4, y5, y6, y7, y8, y9, y10, y11, y12, y13, y14, y15, y16, y17, y18⟩ := hP
    cases hq : fP s.1 26 k 11 with
    | none =>
      rw [hq] at y15
      have y15 : s.2.1 60 k = -1 := y15
      exact nFail (hF := ⟨k, hk, rfl⟩) (E := 2) (e := 2) (v := 0) hJ (by simp only [d_128_0, h1 s rfl, bR, ntg_self, nn_some, hq, nz_none, d_128_28, d_128_29, c84_0, bV, hE]) (fun z => by simp only [d_225_0, h2 (s.1, s.2.1, z) rfl, bI, n10, if_false, hin, en, y15, if_true, d_225_33, d_225_38, r172_2]) rfl n20
    | some a =>
      rw [hq] at y15
      obtain ⟨ha, y60⟩ : a < fN s.1 24 ∧ s.2.1 60 k = iN a := y15
      have ht := hJ.2.2.2.2.2.2.2.2.1.2 k hk
      have hne : ¬ s.2.1 60 k = -1 := by
        rw [y60]
        intro z
        have := congrArg Int32.toInt z
        rw [iN_toInt (by omega), show (-1 : Int32).toInt = -1 from rfl] at this
        omega
      rcases over65 (xs := xs) (nx := nx) hJ hk with ⟨h7, h8, o1, o2⟩ | ⟨h78, o1, o2⟩
      · rcases hb with rfl | rfl
        · have hT : nJ κ i (uP 26 k 11 none s.1) (uM 60 k (-1) (uM 52 k (s.2.1 52 k) (uM 1 76 0 s.2.1))) := by
            refine nJ_par (k := k) (nJ_76 (x := 0) hJ) (fun t t1 t2 => rfl) (fun t t1 => rfl) (fun t t1 => fP_ne t1) rfl (fun t x j h => rfl) (fun t x j h => rfl) (fun t x j h => fP_n h) (fun t h => by rw [uM_ne (by omega), uM_ne (by omega)]) (fun t x h => by rw [uM_k h, uM_k h]) hk ?_ ?_ ?_ ?_
            · unfold nPar
              simp (disch := decide) only [fI_k, fX_k, fP_k, fI_uP, fI_uX, fX_uP, fX_uI, fP_uX, fP_uI, fI_ne, uM_ne, uM1_ne, uM_kk]
              exact ⟨y1, y2, y3, y4, y5, y6, y7, y8, y9, y10, y11, y12, y13, y14, by trivial, y16, y17, y18⟩
            · simp (disch := decide) only [fI_ne, fI_uP, fI_uX, uM_ne]
              exact hM
            · exact Or.inl ⟨by simp (disch := decide) only [uM_ne], by simp (disch := decide) only [uM_ne]⟩
            · exact Or.inr ⟨fun z => hne (ht.1 (by rwa [uM_ne (by decide)] at z)).1, fun z => hne (ht.2 (by rwa [uM_ne (by decide)] at z)).1⟩
          obtain ⟨c', m', D, t1, t2, ⟨t5, t6, t7⟩, t3, t4⟩ := key a s.1 _ (some a) hT rfl
          refine nDoneU (hP := ⟨⟨k, hk, rfl, h7, h8, hne, t6, by rw [t5]⟩, rfl, t7⟩) (v := iN D) t1 ?_ (fun z => ?_) t2
          · simp only [d_128_0, h1 s rfl, bR, ntg_self, nn_some, hq, nz_some, o1 s rfl, bI, if_true, d_128_29, c84_1, bV]
            exact t3 s.2
          · simp (disch := decide) only [d_225_0, h2 (c', s.2.1, z) rfl, bI, n10, if_false, hin, en, hne, o2 (c', s.2.1, z) rfl, if_true, d_225_38, r172_0, uM_ne]
            exact t4 c' z
        · have hT : nJ κ i (uP 26 k 11 none (uX 26 k 10 a s.1)) (uM 60 k (-1) (uM 52 k (s.2.1 60 k) (uM 1 76 0 s.2.1))) := by
            refine nJ_par (k := k) (nJ_76 (x := 0) hJ) (fun t t1 t2 => rfl) (fun t t1 => fX_ne t1) (fun t t1 => fP_ne t1) rfl (fun t x j h => rfl) (fun t x j h => fX_n h) (fun t x j h => fP_n h) (fun t h => by rw [uM_ne (by omega), uM_ne (by omega)]) (fun t x h => by rw [uM_k h, uM_k h]) hk ?_ ?_ ?_ ?_
            · unfold nPar
              simp (disch := decide) only [fI_k, fX_k, fP_k, fI_uP, fI_uX, fX_uP, fX_uI, fP_uX, fP_uI, fI_ne, uM_ne, uM1_ne, uM_kk]
              exact ⟨y1, y2, y3, ⟨ha, y60⟩, y5, y6, y7, y8, y9, y10, y11, y12, y13, y14, by trivial, y16, y17, y18⟩
            · simp (disch := decide) only [fI_ne, fI_uP, fI_uX, uM_ne]
              exact hM
            · exact Or.inl ⟨by simp (disch := decide) only [uM_ne], by simp (disch := decide) only [uM_ne]⟩
            · exact Or.inr ⟨fun z => hne (ht.1 (by rwa [uM_ne (by decide)] at z)).1, fun z => hne (ht.2 (by rwa [uM_ne (by decide)] at z)).1⟩
          obtain ⟨c', m', D, t1, t2, ⟨t5, t6, t7⟩, t3, t4⟩ := key a (uX 26 k 10 a s.1) _ (some a) hT rfl
          refine nDoneU (hP := ⟨⟨k, hk, rfl, h7, h8, hne, t6, by rw [t5]⟩, rfl, t7⟩) (v := iN D) t1 ?_ (fun z => ?_) t2
          · simp only [d_128_0, h1 s rfl, bR, ntg_self, nn_some, hq, nz_some, o1 s rfl, bI, if_true, d_128_29, c84_1, bV, n10, if_false]
            exact t3 s.2
          · simp (disch := decide) only [d_225_0, h2 (c', s.2.1, z) rfl, bI, n10, if_false, hin, en, hne, o2 (c', s.2.1, z) rfl, if_true, d_225_38, r172_0, uM_ne]
            exact t4 c' z
      · exact nFail (hF := ⟨k, hk, rfl⟩) (E := 2) (e := 2) (v := 0) hJ (by simp only [d_128_0, h1 s rfl, bR, ntg_self, nn_some, hq, nz_some, o1 s rfl, bI, n10, if_false, d_128_28, d_128_29, c84_0, bV, hE]) (fun z => by simp only [d_225_0, h2 (s.1, s.2.1, z) rfl, bI, n10, if_false, hin, en, hne, o2 (s.1, s.2.1, z) rfl, if_true, d_225_33, d_225_38, r172_2]) rfl n20
theorem duty0 {x : Int32} (h : nIn x 0 1000) : ((0 : Int32) < (x + 9) / 10 ↔ x ≠ 0) := by
  obtain ⟨n, -, h1, rfl⟩ := h
  rw [show iN n + 9 = iN (n + 9) from i32_add, show (10 : Int32) = iN 10 from rfl, iN_div (by omega) (by omega), show (0 : Int32) = iN 0 from rfl, iN_lt (by omega) (by omega), ne_eq, iN_inj (by omega) (by omega)]
  omega
theorem dutyN {x : Int32} (h : nIn x 0 1000) (h0 : ¬ x = 0) : nIn ((x + 9) / 10) 1 1000 := by
  obtain ⟨n, -, h1, rfl⟩ := h
  have hn : n ≠ 0 := fun z => h0 (by rw [z]; rfl)
  rw [show iN n + 9 = iN (n + 9) from i32_add, show (10 : Int32) = iN 10 from rfl, iN_div (by omega) (by omega)]
  exact ⟨(n + 9) / 10, by omega, by omega, rfl⟩
/-- duty -/
abbrev zP16 (κ : kP) (a1 : Int32) (c : nC) (m : nM) (κ' : kP) (c' : nC) (m' : nM) (v : Int32) : Prop := (∃ k u, k < fN c 26 ∧ a1 = iN k ∧ u < 4 ∧ m 49 k = iN u ∧ m 64 k = 0 ∧ m' 64 k = 1 ∧ m' 90 u = m 90 u - v ∧ nIn v 1 1000) ∧ κ' = κ ∧ m' 1 0 = m 1 0
abbrev zF16 (a1 : Int32) (c : nC) (m : nM) (E : Nat) : Prop := f3 (¬ (∃ k, k < fN c 26 ∧ a1 = iN k)) False (∃ k, k < fN c 26 ∧ a1 = iN k) E
theorem op16 : ∀ i, i < 512 → ∀ (a1 : Int32), nDoes κ (zP16 κ a1) (zF16 a1) i [(0, 1), (2, 2)] (fun s => R1 xs nx 129 0 [some (vR 0 (some 0)), some (vI a1), none, none] [] s) (fun s => R1 xs nx 226 0 [some (vR 1 (some 0)), some (vI a1), none] [] s) := by
  intro i hi a1 s hJ
  rcases idx97 (xs := xs) (nx := nx) hJ a1 with ⟨h1, h2⟩ | ⟨k, hk, ea, hin, en, h1, h2⟩
  · exact nFail (hF := nd97 hJ rfl (h1 s rfl)) (E := 0) (e := 1) (v := 0) hJ (by simp only [d_129_0, h1 s rfl, bR, hE]) (fun z => by simp only [d_226_0, h2 (s.1, s.2.1, z) rfl, bI, if_true, d_226_46, r172_1, n10, if_false]) rfl n10
  · subst ea
    have h40 := k40 hJ hk
    have hP := hJ.2.2.2.2.2.1 k hk
    have hM := hJ.2.2.2.2.2.2.2.2.2.2.1 k hk
    have hA := hJ.2.2.2.2.2.2.2.2.2.2.2.2.2.2.1
    obtain ⟨⟨u, u1, u2, u3⟩, y2, y3, y4, y5, y6, ⟨z1, z2⟩, y8, ⟨z3, z4⟩, y10, y11, y12, y13, y14, y15, y16, y17, y18⟩ := hP
    by_cases hp : s.2.1 64 k = 0
    · by_cases hv : s.2.1 55 k = 0
      · have hd : ¬ (0 : Int32) < (s.2.1 55 k + 9) / 10 := fun z => (duty0 z2).mp z hv
        exact nFail (hF := ⟨k, hk, rfl⟩) (E := 2) (e := 2) (v := 0) hJ (by simp only [d_129_0, h1 s rfl, bR, ntg_self, nn_some, d_60_0, bI, z3, hp, if_true, z1, hd, if_false, d_129_39, d_129_40, c84_0, bV, hE]) (fun z => by simp only [d_226_0, h2 (s.1, s.2.1, z) rfl, bI, n10, if_false, hin, en, hp, hv, if_true, d_226_41, d_226_46, r172_2]) rfl n20
      · have hd : (0 : Int32) < (s.2.1 55 k + 9) / 10 := (duty0 z2).mpr hv
        rcases over65 (xs := xs) (nx := nx) hJ hk with ⟨h7, h8, o1, o2⟩ | ⟨h78, o1, o2⟩
        · have hT0 : nJ κ i (uI 8 k 2 1 s.1) (uM 64 k 1 (uM 1 76 0 s.2.1)) := by
            refine nJ_par (k := k) (nJ_76 (x := 0) hJ) (fun t t1 t2 => fI_ne t2) (fun t t1 => rfl) (fun t t1 => rfl) rfl (fun t x j h => fI_n h) (fun t x j h => rfl) (fun t x j h => rfl) (fun t h => by rw [uM_ne (by omega)]) (fun t x h => by rw [uM_k h]) hk ?_ ?_ ?_ ?_
            · unfold nPar
              simp (disch := decide) only [fI_k, fX_k, fP_k, fI_uP, fI_uX, fX_uP, fX_uI, fP_uX, fP_uI, fI_ne, uM_ne, uM1_ne, uM_kk]
              exact ⟨⟨u, u1, u2, u3⟩, y2, y3, y4, y5, y6, ⟨z1, z2⟩, y8, ⟨by trivial, Or.inr rfl⟩, y10, y11, y12, y13, y14, y15, y16, y17, y18⟩
            · unfold nMon at hM ⊢
              simp (disch := decide) only [fI_k, fI_ne, fI_uP, fI_uX, uM_ne]
              exact hM
            · exact Or.inl ⟨by simp (disch := decide) only [uM_ne], by simp (disch := decide) only [uM_ne]⟩
            · exact Or.inl ⟨by simp (disch := decide) only [uM_ne], by simp (disch := decide) only [uM_ne], by simp (disch := decide) only [uM_ne], by simp (disch := decide) only [uM_ne]⟩
          have hT : nJ κ i (uI 22 u 1 (s.2.1 90 u - (s.2.1 55 k + 9) / 10) (uI 8 k 2 1 s.1)) (uM 90 u (s.2.1 90 u - (s.2.1 55 k + 9) / 10) (uM 64 k 1 (uM 1 76 0 s.2.1))) := nJ_acct hT0
          have hu4 : mIn (s.2.1 49 k) 4 = true := by rw [u3]; exact mIn_iff.mpr ⟨i32_pos (by omega), by rw [i32_nat (by omega)]; omega⟩
          have hun : (s.2.1 49 k).toNatClampNeg = u := by rw [u3]; exact i32_nat (by omega)
          have hacc : fI s.1 22 u 1 = s.2.1 90 u := hA u u1
          have ec : uI 22 u 1 (fI (uI 8 k 2 1 s.1) 22 u 1 - (s.2.1 55 k + 9) / 10) (uI 8 k 2 1 s.1) = uI 22 u 1 (s.2.1 90 u - (s.2.1 55 k + 9) / 10) (uI 8 k 2 1 s.1) := by rw [fI_ne (by decide), hacc]
          have hkX : k < fN (uI 22 u 1 (s.2.1 90 u - (s.2.1 55 k + 9) / 10) (uI 8 k 2 1 s.1)) 26 := hk
          obtain ⟨e, -⟩ := kind8 hT hkX
          simp (disch := decide) only [uM_ne] at e
          by_cases h6 : s.2.1 66 k = 6
          · obtain ⟨d, l1, l2, l3, l4, l5⟩ := sty6 hT hkX (by simp (disch := decide) only [uM_ne]; exact h6)
            simp (disch := decide) only [uM_ne] at l2 l4
            by_cases h0 : s.2.1 73 k = 0
            · refine nDoneU (hP := ⟨⟨k, u, hk, rfl, u1, u3, hp, by simp (disch := decide) only [uM_ne, uM_kk], by rw [uM_kk], dutyN z2 hv⟩, rfl, by simp (disch := decide) only [uM_ne, uM1_ne, mMv_1]⟩) (v := (s.2.1 55 k + 9) / 10) (nJ_up hT) ?_ (fun z => ?_) ?_
              · simp only [d_129_0, h1 s rfl, bR, ntg_self, nn_some, d_60_0, bI, z3, hp, if_true, z1, hd, o1 s rfl, d_129_40, c84_1, bV, u2]
                rw [hacc, d_68_0]
                dsimp only
                rw [show fI (uI 22 u 1 (s.2.1 90 u - (s.2.1 55 k + 9) / 10) (uI 8 k 2 1 s.1)) 9 k 0 = s.2.1 66 k from e, if_pos h6, l4, if_pos h0]
                rfl
              · simp (disch := decide) only [d_226_0, h2 (_, s.2.1, z) rfl, bI, n10, if_false, hin, en, hp, hv, o2 (_, s.2.1, z) rfl, if_true, d_226_46, r172_0, true_and, or_true, hu4, hun, uM_ne, d_195_0, h6, h0, d_226_115]
              · simp (disch := decide) only [uM_ne, uM_self]
            · have hp0 := put0 hT (by omega) hkX (by simp (disch := decide) only [uM_ne, h6]; decide) (by simp (disch := decide) only [uM_ne, h6]; decide) l1
              refine nDoneU (hP := ⟨⟨k, u, hk, rfl, u1, u3, hp, by simp (disch := decide) only [mMv_ne, uM_ne, uM_kk], by rw [mMv_ne (by decide), uM_kk], dutyN z2 hv⟩, rfl, by simp (disch := decide) only [uM_ne, uM1_ne, mMv_1]⟩) (v := (s.2.1 55 k + 9) / 10) hp0 ?_ (fun z => ?_) ?_
              · simp only [d_129_0, h1 s rfl, bR, ntg_self, nn_some, d_60_0, bI, z3, hp, if_true, z1, hd, o1 s rfl, d_129_40, c84_1, bV, u2]
                rw [hacc, d_68_0]
                dsimp only
                rw [show fI (uI 22 u 1 (s.2.1 90 u - (s.2.1 55 k + 9) / 10) (uI 8 k 2 1 s.1)) 9 k 0 = s.2.1 66 k from e, if_pos h6, l4, if_neg h0]
                dsimp only
                rw [if_neg n10, r127 hT hkX l1 l3]
              · simp (disch := decide) only [d_226_0, h2 (_, s.2.1, z) rfl, bI, n10, if_false, hin, en, hp, hv, o2 (_, s.2.1, z) rfl, if_true, d_226_46, r172_0, true_and, or_true, hu4, hun, uM_ne, d_195_0, h6, h0, l2, r191 h40, bV, d_226_115, mMv_ne]
              · rw [mMv0_76]
                simp (disch := decide) only [uM_ne, uM_self]
          · refine nDoneU (hP := ⟨⟨k, u, hk, rfl, u1, u3, hp, by simp (disch := decide) only [uM_ne, uM_kk], by rw [uM_kk], dutyN z2 hv⟩, rfl, by simp (disch := decide) only [uM_ne, uM1_ne, mMv_1]⟩) (v := (s.2.1 55 k + 9) / 10) (nJ_up hT) ?_ (fun z => ?_) ?_
            · simp only [d_129_0, h1 s rfl, bR, ntg_self, nn_some, d_60_0, bI, z3, hp, if_true, z1, hd, o1 s rfl, d_129_40, c84_1, bV, u2]
              rw [hacc, d_68_0]
              dsimp only
              rw [show fI (uI 22 u 1 (s.2.1 90 u - (s.2.1 55 k + 9) / 10) (uI 8 k 2 1 s.1)) 9 k 0 = s.2.1 66 k from e, if_neg h6]
              rfl
            · simp (disch := decide) only [d_226_0, h2 (_, s.2.1, z) rfl, bI, n10, if_false, hin, en, hp, hv, o2 (_, s.2.1, z) rfl, if_true, d_226_46, r172_0, true_and, or_true, hu4, hun, uM_ne, d_195_0, h6, d_226_115]
            · simp (disch := decide) only [uM_ne, uM_self]
        · exact nFail (hF := ⟨k, hk, rfl⟩) (E := 2) (e := 2) (v := 0) hJ (by simp only [d_129_0, h1 s rfl, bR, ntg_self, nn_some, d_60_0, bI, z3, hp, if_true, z1, hd, o1 s rfl, n10, if_false, d_129_39, d_129_40, c84_0, bV, hE]) (fun z => by simp only [d_226_0, h2 (s.1, s.2.1, z) rfl, bI, n10, if_false, hin, en, hp, hv, o2 (s.1, s.2.1, z) rfl, if_true, d_226_41, d_226_46, r172_2]) rfl n20
    · exact nFail (hF := ⟨k, hk, rfl⟩) (E := 2) (e := 2) (v := 0) hJ (by simp only [d_129_0, h1 s rfl, bR, ntg_self, nn_some, d_60_0, bI, z3, hp, if_false, d_129_39, d_129_40, c84_0, bV, hE]) (fun z => by simp only [d_226_0, h2 (s.1, s.2.1, z) rfl, bI, n10, if_false, hin, en, hp, if_true, d_226_41, d_226_46, r172_2]) rfl n20
end OPU
end KAP
