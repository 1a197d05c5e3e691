/-! ===== isNet: plans: made by wip/p46/gen2/mk98zt.py ===== -/
section KAP
variable {κ : kP}
section NETP
variable {xs : Nat → Int32} {nx : Nat} {i : Nat} {c : nC} {m a : nM} {q : Nat} {J : Nat → Int64}
theorem net2 (hi : i + 3 < 512) (hJ : nJ κ i c m) (hA : pA κ a) {one two : Nat} (h1 : one < 60000) (h2 : two < 70000) {W : Int32} (hW : W = 2 ∨ W = 3) : lRes xs nx 8 [some (vR 0 (some 0)), some (vR 35 (some 0)), some (vR 45 (some 0)), some (vR 79 (some 0)), some (vR 29 (some 0)), some (vR 80 (some 0)), some (vI W), some (vI (iN one)), some (vI (iN two)), none, none, none, none, none, none] i 3 c m a q J := by
  have e5 : iN one - iN one / (5 : Int32) * 5 = iN (one % 5) := mdN 5 (by omega) (by omega)
  have d5 : iN one / (5 : Int32) = iN (one / 5) := iN_div (b := 5) (by omega) (by omega)
  have f5 : iN (one / 5) - iN (one / 5) / (5 : Int32) * 5 = iN ((one / 5) % 5) := mdN 5 (by omega) (by omega)
  have e13 : iN two - iN two / (13 : Int32) * 13 = iN (two % 13) := mdN 13 (by omega) (by omega)
  have d13 : iN two / (13 : Int32) = iN (two / 13) := iN_div (b := 13) (by omega) (by omega)
  have e2 : iN (two / 13) - iN (two / 13) / (2 : Int32) * 2 = iN ((two / 13) % 2) := mdN 2 (by omega) (by omega)
  have h23 := hJ.1.1.1
  have z0 : a 80 0 = iN (fN c 23) := by rw [hA.1.1, (nJ_k hJ).1.1]
  obtain ⟨l, hl⟩ : ∃ l : Int32, l = iN (two % 13) - 1 := ⟨_, rfl⟩
  have hl2 : (l = -1 ∧ two % 13 = 0) ∨ ∃ y, y < 12 ∧ l = iN y := by
    by_cases h : two % 13 = 0
    · exact Or.inl ⟨by rw [hl, h]; decide, h⟩
    · exact Or.inr ⟨two % 13 - 1, by omega, by rw [hl]; exact i32_sub (b := 1) (by omega) (by omega)⟩
  have st : R1 xs nx 8 0 [some (vR 0 (some 0)), some (vR 35 (some 0)), some (vR 45 (some 0)), some (vR 79 (some 0)), some (vR 29 (some 0)), some (vR 80 (some 0)), some (vI W), some (vI (iN one)), some (vI (iN two)), none, none, none, none, none, none] [] (c, a, q, J) = _ := d_8_0 _ _ _ _
  rw [if_neg (show ¬ W = 0 by rcases hW with h | h <;> rw [h] <;> decide), if_neg (show ¬ W = 1 by rcases hW with h | h <;> rw [h] <;> decide), if_pos (show W < 4 by rcases hW with h | h <;> rw [h] <;> decide), if_pos i60, e5, d5, f5, e13, ← hl] at st
  dsimp only at st
  simp only [t60, z0] at st
  have nAB : one % 5 ≠ one / 5 % 5 → ¬ (iN (one % 5)) = (iN (one / 5 % 5)) := fun h z => h ((iN_inj (by omega) (by omega)).mp z)
  have h34 : ¬ (two / 13 % 2) < 0 := by omega
  have nh : ¬ (iN (two / 13 % 2)) < 0 ∧ ¬ (1 : Int32) < (iN (two / 13 % 2)) := ⟨iN_pos (by omega), iN_nlt (a := 1) (by omega) (by omega) (by omega)⟩
  -- the outcome of the call, by what is asked
  have out : ∀ (κ : kP) (i : Nat) (c : nC) (m : nM) (q : Nat), i < 512 → nJ κ i c m → dDo xs nx κ (zP5 κ (iN (one % 5)) (iN (one / 5 % 5)) (iN (two / 13 % 2)) l) (zF5 (iN (one % 5)) (iN (one / 5 % 5)) (iN (two / 13 % 2)) l) i c m a q J [some (vR 0 (some 0)), some (vI 5), some (vI (iN (one % 5))), some (vI (iN (one / 5 % 5))), some (vI (iN (two / 13 % 2))), some (vI l), some (vI 0), some (vI 0), none] := fun κ i c m q hi hJ => do5 hi hJ (iN (one % 5)) (iN (one / 5 % 5)) (iN (two / 13 % 2)) l 0 0
  have hA5 : ∃ d, d < 5 ∧ (iN (one % 5)) = iN d := ⟨_, Nat.mod_lt _ (by decide), rfl⟩
  have hB5 : ∃ d, d < 5 ∧ (iN (one / 5 % 5)) = iN d := ⟨_, Nat.mod_lt _ (by decide), rfl⟩
  by_cases there : l = -1 ∨ ∃ k, k < fN c 23 ∧ l = iN k
  · have hlt : l < iN (fN c 23) := by
      rcases there with h | ⟨k, h, e⟩
      · rw [h]
        rcases Nat.eq_zero_or_pos (fN c 23) with z | z
        · rw [z]; decide
        · exact Int32.lt_trans (show (-1 : Int32) < 0 by decide) ((iN_lt (a := 0) (by omega) (by omega)).mpr z)
      · rw [e]; exact (iN_lt (by omega) (by omega)).mpr h
    rw [if_pos hlt, d_8_339, if_neg n10] at st
    have r375 : ∀ as0, R1 xs nx 8 375 [some (vR 0 (some 0)), some (vR 35 (some 0)), some (vR 45 (some 0)), some (vR 79 (some 0)), some (vR 29 (some 0)), some (vR 80 (some 0)), some (vI W), some (vI (iN one)), some (vI (iN two)), some (vI (iN (one % 5))), some (vI (iN (one / 5 % 5))), some (vI l), some (vI 1), none, none] [vI as0] (c, a, q, J) = _ := fun as0 => d_8_375 _ _ _ _ _ _ _ _ _
    obtain ⟨κ', c', m', hJ', hd⟩ := out κ i c m q (by omega) hJ
    by_cases right : one % 5 ≠ one / 5 % 5 ∧ (l = -1 ∨ ∃ k, k < fN c 23 ∧ l = iN k ∧ fX c 23 k 1 = one % 5)
    · have st : R1 xs nx 8 0 [some (vR 0 (some 0)), some (vR 35 (some 0)), some (vR 45 (some 0)), some (vR 79 (some 0)), some (vR 29 (some 0)), some (vR 80 (some 0)), some (vI W), some (vI (iN one)), some (vI (iN two)), none, none, none, none, none, none] [] (c, a, q, J) = R1 xs nx 8 375 [some (vR 0 (some 0)), some (vR 35 (some 0)), some (vR 45 (some 0)), some (vR 79 (some 0)), some (vR 29 (some 0)), some (vR 80 (some 0)), some (vI W), some (vI (iN one)), some (vI (iN two)), some (vI (iN (one % 5))), some (vI (iN (one / 5 % 5))), some (vI l), some (vI 1), none, none] [vI 1] (c, a, q, J) := by
        rw [if_neg (nAB right.1)] at st
        rcases right.2 with h | ⟨k, h, e, hx⟩
        · rw [if_pos (show l < 0 by rw [h]; decide), d_8_370] at st
          exact st
        · obtain ⟨H, X, y1, y2, y3, y4, y5, y6⟩ := rowL hJ hA h
          have hw : wN (fX c 23 k 1) (fX c 23 k 2) H X < 100000 := by unfold wN; omega
          have x1 : a 35 k - a 35 k / 10 * 10 = iN (fX c 23 k 1) := by
            rw [y6]
            exact (iN_mod (b := 10) (by omega) (by omega)).trans (by rw [(wN_a (X := X) y4 y5 (show H < 100 by omega)).1])
          have hn : l.toNatClampNeg = k := by rw [e]; exact i32_nat (by omega)
          rw [if_neg (show ¬ l < 0 by rw [e]; exact iN_pos (by omega)), if_pos (show mIn l 12 = true by rw [e]; exact iN_in (by omega) (by decide))] at st
          dsimp only at st
          simp only [hn, x1, hx] at st
          rw [if_true, d_8_370] at st
          exact st
      rw [r375, d13, e2] at st
      rcases hd with ⟨v, ⟨⟨d, t, h, d1, d2, d3, d4, d5', d6, d7, d8, d9, d10, d11⟩, p2, p4⟩, hr⟩ | ⟨-, ⟨f, hr⟩ | ⟨f, hr⟩ | ⟨f, hr⟩⟩
      · have hv1 : ¬ v < -1 ∧ v < iN (fN c 23) := by
          rcases d11 with z | ⟨k, k1, z⟩
          · rw [z]
            refine ⟨by decide, ?_⟩
            rcases Nat.eq_zero_or_pos (fN c 23) with y | y
            · rw [y]; decide
            · exact Int32.lt_trans (show (-1 : Int32) < 0 by decide) ((iN_lt (a := 0) (by omega) (by omega)).mpr y)
          · rw [z]
            exact ⟨fun w => iN_pos (show k < 2 ^ 31 by omega) (Int32.lt_trans w (show (-1 : Int32) < 0 by decide)), (iN_lt (by omega) (by omega)).mpr k1⟩
        rw [hr, bI_Vl, if_neg n10, if_neg n10, if_neg hv1.1, if_pos i60] at st
        dsimp only at st
        simp only [t60, z0] at st
        rw [if_pos hv1.2] at st
        have h23' : fN c' 23 = fN c 23 := by rw [← (nJ_k hJ').1.1, p2, (nJ_k hJ).1.1]
        have hx' : fX c' 23 = fX c 23 := by rw [← (nJ_k hJ').2.1, p2, (nJ_k hJ).2.1]
        obtain ⟨κ2, c2, m2, hJ2, hd2⟩ := out κ' (i + 1) c' m' q (by omega) hJ'
        rcases hd2 with ⟨v2, ⟨⟨d', t', h', b1, b2, b3, b4, b5, b6, b7, b8, b9, b10, b11⟩, p2', p4'⟩, hr2⟩ | ⟨-, ⟨f, hr2⟩ | ⟨f, hr2⟩ | ⟨f, hr2⟩⟩
        · have ed : d' = d := (iN_inj (by omega) (by omega)).mp (b4.symm.trans d4)
          have et : t' = t := (iN_inj (by omega) (by omega)).mp (b5.symm.trans d5')
          have eh : h' = h := (iN_inj (by omega) (by omega)).mp (b6.symm.trans d6)
          rw [ed, et, eh, d10] at b9
          rw [hr2, bI_Vl, if_pos b9] at st
          exact ⟨κ2, i + 1 + 1, c2, m2, a, q, by omega, by omega, by omega, hJ2, by rw [p2', p2]; exact hA, p4'.trans p4, rfl, st⟩
        · exfalso
          have f : (¬ ∃ d, d < 5 ∧ (iN (one % 5)) = iN d) ∨ (¬ ∃ d, d < 5 ∧ (iN (one / 5 % 5)) = iN d) ∨ (¬ l = -1 ∧ ¬ ∃ k, k < fN c' 23 ∧ l = iN k) := f
          rcases f with f | f | f
          · exact f hA5
          · exact f hB5
          · rcases there with z | z
            · exact f.1 z
            · exact f.2 (by rw [h23']; exact z)
        · exfalso
          obtain ⟨-, -, -, f⟩ : _ ∧ _ ∧ _ ∧ ((iN (one % 5)) = (iN (one / 5 % 5)) ∨ (iN (two / 13 % 2)) < 0 ∨ 1 < (iN (two / 13 % 2)) ∨ ∃ l' d, l' < fN c' 23 ∧ l = iN l' ∧ d < 5 ∧ (iN (one % 5)) = iN d ∧ fX c' 23 l' 1 ≠ d) := f
          rcases f with f | f | f | ⟨l', d', g1, g2, g3, g4, g5⟩
          · exact nAB right.1 f
          · exact nh.1 f
          · exact nh.2 f
          · rw [h23'] at g1
            rcases right.2 with z | ⟨k, k1, k2, k3⟩
            · rw [z] at g2
              exact iN_ne1 (show l' < 2 ^ 31 by omega) g2.symm
            · have e1 : l' = k := (iN_inj (by omega) (by omega)).mp (g2.symm.trans k2)
              have e2 : one % 5 = d' := (iN_inj (by omega) (by omega)).mp g4
              exact g5 (by rw [hx', e1, k3, e2])
        · exact (show False from f).elim
      · exfalso
        have f : (¬ ∃ d, d < 5 ∧ (iN (one % 5)) = iN d) ∨ (¬ ∃ d, d < 5 ∧ (iN (one / 5 % 5)) = iN d) ∨ (¬ l = -1 ∧ ¬ ∃ k, k < fN c 23 ∧ l = iN k) := f
        rcases f with f | f | f
        · exact f hA5
        · exact f hB5
        · rcases there with z | z
          · exact f.1 z
          · exact f.2 z
      · exfalso
        obtain ⟨-, -, -, f⟩ : _ ∧ _ ∧ _ ∧ ((iN (one % 5)) = (iN (one / 5 % 5)) ∨ (iN (two / 13 % 2)) < 0 ∨ 1 < (iN (two / 13 % 2)) ∨ ∃ l' d, l' < fN c 23 ∧ l = iN l' ∧ d < 5 ∧ (iN (one % 5)) = iN d ∧ fX c 23 l' 1 ≠ d) := f
        rcases f with f | f | f | ⟨l', d', g1, g2, g3, g4, g5⟩
        · exact nAB right.1 f
        · exact nh.1 f
        · exact nh.2 f
        · rcases right.2 with z | ⟨k, k1, k2, k3⟩
          · rw [z] at g2
            exact iN_ne1 (show l' < 2 ^ 31 by omega) g2.symm
          · have e1 : l' = k := (iN_inj (by omega) (by omega)).mp (g2.symm.trans k2)
            have e2 : one % 5 = d' := (iN_inj (by omega) (by omega)).mp g4
            exact g5 (by rw [e1, k3, e2])
      · exact (show False from f).elim
    · have st : R1 xs nx 8 0 [some (vR 0 (some 0)), some (vR 35 (some 0)), some (vR 45 (some 0)), some (vR 79 (some 0)), some (vR 29 (some 0)), some (vR 80 (some 0)), some (vI W), some (vI (iN one)), some (vI (iN two)), none, none, none, none, none, none] [] (c, a, q, J) = R1 xs nx 8 375 [some (vR 0 (some 0)), some (vR 35 (some 0)), some (vR 45 (some 0)), some (vR 79 (some 0)), some (vR 29 (some 0)), some (vR 80 (some 0)), some (vI W), some (vI (iN one)), some (vI (iN two)), some (vI (iN (one % 5))), some (vI (iN (one / 5 % 5))), some (vI l), some (vI 1), none, none] [vI 0] (c, a, q, J) := by
        by_cases hab : (iN (one % 5)) = (iN (one / 5 % 5))
        · rw [if_pos hab, d_8_374] at st
          exact st
        · rw [if_neg hab] at st
          have hne : one % 5 ≠ one / 5 % 5 := fun z => hab (by rw [z])
          rcases there with z | ⟨k, h, e⟩
          · exact absurd ⟨hne, Or.inl z⟩ right
          · have hx : ¬ fX c 23 k 1 = one % 5 := fun w => right ⟨hne, Or.inr ⟨k, h, e, w⟩⟩
            obtain ⟨H, X, y1, y2, y3, y4, y5, y6⟩ := rowL hJ hA h
            have hw : wN (fX c 23 k 1) (fX c 23 k 2) H X < 100000 := by unfold wN; omega
            have x1 : a 35 k - a 35 k / 10 * 10 = iN (fX c 23 k 1) := by
              rw [y6]
              exact (iN_mod (b := 10) (by omega) (by omega)).trans (by rw [(wN_a (X := X) y4 y5 (show H < 100 by omega)).1])
            have hn : l.toNatClampNeg = k := by rw [e]; exact i32_nat (by omega)
            rw [if_neg (show ¬ l < 0 by rw [e]; exact iN_pos (by omega)), if_pos (show mIn l 12 = true by rw [e]; exact iN_in (by omega) (by decide))] at st
            dsimp only at st
            simp only [hn, x1] at st
            rw [if_neg (show ¬ iN (fX c 23 k 1) = iN (one % 5) from fun w => hx ((iN_inj (by omega) (by omega)).mp w)), d_8_374] at st
            exact st
      rw [r375, d13, e2] at st
      rcases hd with ⟨v, ⟨⟨d, t, h, d1, d2, d3, d4, d5', d6, d7, d8, d9, d10, d11⟩, p2, p4⟩, hr⟩ | ⟨-, ⟨f, hr⟩ | ⟨f, hr⟩ | ⟨f, hr⟩⟩
      · exfalso
        have ed : one % 5 = d := (iN_inj (by omega) (by omega)).mp d4
        have et : one / 5 % 5 = t := (iN_inj (by omega) (by omega)).mp d5'
        refine right ⟨by omega, ?_⟩
        rcases d8 with z | ⟨k, k1, k2, k3⟩
        · exact Or.inl z
        · exact Or.inr ⟨k, k1, k2, by omega⟩
      · exfalso
        have f : (¬ ∃ d, d < 5 ∧ (iN (one % 5)) = iN d) ∨ (¬ ∃ d, d < 5 ∧ (iN (one / 5 % 5)) = iN d) ∨ (¬ l = -1 ∧ ¬ ∃ k, k < fN c 23 ∧ l = iN k) := f
        rcases f with f | f | f
        · exact f hA5
        · exact f hB5
        · rcases there with z | z
          · exact f.1 z
          · exact f.2 z
      · rw [hr, bI_Vl, if_neg n10, if_pos rfl, if_pos rfl] at st
        exact ⟨κ, i, c, m, a, q + 1, by omega, by omega, by omega, hJ, hA, rfl, rfl, st⟩
      · exact (show False from f).elim
  · have hlt : ¬ l < iN (fN c 23) := by
      rcases hl2 with ⟨h, -⟩ | ⟨y, hy, e⟩
      · exact absurd (Or.inl h) there
      · rw [e]
        exact fun z => there (Or.inr ⟨y, (iN_lt (by omega) (by omega)).mp z, e⟩)
    rw [if_neg hlt, d_8_339, if_pos rfl, d_8_374, d_8_375, d13, e2] at st
    obtain ⟨κ', c', m', hJ', hd⟩ := out κ i c m q (by omega) hJ
    rcases hd with ⟨v, ⟨⟨d, t, h, d1, d2, d3, d4, d5', d6, d7, d8, d9, d10, d11⟩, p2, p4⟩, hr⟩ | ⟨-, ⟨f, hr⟩ | ⟨f, hr⟩ | ⟨f, hr⟩⟩
    · exfalso
      rcases d8 with z | ⟨k, k1, k2, -⟩
      · exact there (Or.inl z)
      · exact there (Or.inr ⟨k, k1, k2⟩)
    · rw [hr, bI_Vl, if_pos rfl, if_pos rfl] at st
      exact ⟨κ, i, c, m, a, q + 1, by omega, by omega, by omega, hJ, hA, rfl, rfl, st⟩
    · obtain ⟨-, -, f, -⟩ : _ ∧ _ ∧ (l = -1 ∨ ∃ k, k < fN c 23 ∧ l = iN k) ∧ _ := f
      exact absurd f there
    · exact (show False from f).elim
/-- the law builds a net -/
theorem netAll (hi : i + 3 < 512) (hJ : nJ κ i c m) (hA : pA κ a) {one two w : Nat} (hw : w < 10) (h1 : one < 60000) (h2 : two < 70000) : lRes xs nx 8 [some (vR 0 (some 0)), some (vR 35 (some 0)), some (vR 45 (some 0)), some (vR 79 (some 0)), some (vR 29 (some 0)), some (vR 80 (some 0)), some (vI (iN w)), some (vI (iN one)), some (vI (iN two)), none, none, none, none, none, none] i 3 c m a q J := by
  obtain rfl | rfl | rfl | rfl | rfl | rfl | rfl | rfl | rfl | rfl : w = 0 ∨ w = 1 ∨ w = 2 ∨ w = 3 ∨ w = 4 ∨ w = 5 ∨ w = 6 ∨ w = 7 ∨ w = 8 ∨ w = 9 := by omega
  · exact net0 hi hJ hA h1 h2
  · exact net1 hi hJ hA h1 h2
  · exact net2 hi hJ hA h1 h2 (Or.inl rfl)
  · exact net2 hi hJ hA h1 h2 (Or.inr rfl)
  · exact net4 hi hJ hA h1 h2
  · exact net5 hi hJ hA h1 h2
  · exact net6 hi hJ hA h1 h2
  · exact net7 hi hJ hA h1 h2
  · exact net8 hi hJ hA h1 h2
  · exact net9 hi hJ hA h1 h2
end NETP
end KAP
