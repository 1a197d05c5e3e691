/-! ===== arePlaces: its loops, its answer: made by wip/p46/gen2/mk98zn.py ===== -/
section KAP
variable {κ : kP}
section PLN
variable {xs : Nat → Int32} {nx : Nat} {i : Nat} {c : nC} {m a : nM} {q : Nat} {J : Nat → Int64}
/-! what the law asks and is refused -/
theorem kE0 (hJ : nJ κ i c m) : R1 xs nx 2 0 [some (vR 0 (some 0)), some (vI 0), some (vI (iN (fN c 26))), some (vI 0), none] [] (c, a, q, J) = nVl (-3000000) c (a, q + 1, J) := by
  rw [asks0]
  exact ask0 (a, q, J) (tA144 (a, q, J) (p97n (a, q, J) hJ (Nat.le_refl _) (by have := hJ.1.2.2.1.1; omega)))
theorem kE4 (hJ : nJ κ i c m) : R1 xs nx 2 0 [some (vR 0 (some 0)), some (vI 4), some (vI (iN (fN c 26))), some (vI 0), none] [] (c, a, q, J) = nVl (-3000000) c (a, q + 1, J) := by
  rw [asks4]
  exact ask0 (a, q, J) (tA148 (a, q, J) (p97n (a, q, J) hJ (Nat.le_refl _) (by have := hJ.1.2.2.1.1; omega)))
theorem kE3 : R1 xs nx 2 0 [some (vR 0 (some 0)), some (vI 3), some (vI 9), some (vI 0), none] [] (c, a, q, J) = nVl (-2000000) c (a, q + 1, J) := by
  rw [asks3]
  exact ask1 (a, q, J) (tA147 (a, q, J))
theorem kE6 (hJ : nJ κ i c m) : R1 xs nx 2 0 [some (vR 0 (some 0)), some (vI 6), some (vI (iN (fN c 23))), some (vI 0), none] [] (c, a, q, J) = nVl (-3000000) c (a, q + 1, J) := by
  rw [asks6]
  exact ask0 (a, q, J) (tA150 (a, q, J) (p86n (a, q, J) hJ (Nat.le_refl _) (by have := hJ.1.1.1; omega)))
theorem kE7 (hJ : nJ κ i c m) : R1 xs nx 2 0 [some (vR 0 (some 0)), some (vI 7), some (vI (iN (fN c 27))), some (vI 0), none] [] (c, a, q, J) = nVl (-3000000) c (a, q + 1, J) := by
  rw [asks7]
  exact ask0 (a, q, J) (tA152 (a, q, J) (p151n (a, q, J) hJ (Nat.le_refl _) (by have := hJ.1.2.2.2.1.1; omega)))
theorem kE8 (hJ : nJ κ i c m) : R1 xs nx 2 0 [some (vR 0 (some 0)), some (vI 8), some (vI (iN (fN c 28))), some (vI 1), none] [] (c, a, q, J) = nVl (-3000000) c (a, q + 1, J) := by
  rw [asks8]
  exact ask0 (a, q, J) (tA153 (a, q, J) (p135n (a, q, J) hJ (Nat.le_refl _) (by have := hJ.1.2.2.2.2.1.1; omega)))
theorem kE14 : R1 xs nx 2 0 [some (vR 0 (some 0)), some (vI 14), some (vI 5), some (vI 0), none] [] (c, a, q, J) = nVl (-3000000) c (a, q + 1, J) := by
  rw [asks14]
  exact ask0 (a, q, J) (tA162 (a, q, J) (p78n (a, q, J)))
theorem kE9 : R1 xs nx 2 0 [some (vR 0 (some 0)), some (vI 9), some (vI 4), some (vI 0), none] [] (c, a, q, J) = nVl (-3000000) c (a, q + 1, J) := by
  rw [asks9]
  exact ask0 (a, q, J) (tA154 (a, q, J) (p92n (a, q, J)))
theorem kE10 : R1 xs nx 2 0 [some (vR 0 (some 0)), some (vI 10), some (vI 5), some (vI 0), none] [] (c, a, q, J) = nVl (-3000000) c (a, q + 1, J) := by
  rw [asks10]
  exact ask0 (a, q, J) (tA155 (a, q, J) (p78n (a, q, J)))
theorem kE2 (hJ : nJ κ i c m) : R1 xs nx 2 0 [some (vR 0 (some 0)), some (vI 2), some (vI 40), some (vI 0), none] [] (c, a, q, J) = nVl (-3000000) c (a, q + 1, J) := by
  rw [asks2]
  exact ask0 (a, q, J) (tA146 (a, q, J) (p97n (k := 40) (a, q, J) hJ hJ.1.2.2.1.1 (by decide)))
theorem kE2b (hJ : nJ κ i c m) (h : 0 < fN c 26) : R1 xs nx 2 0 [some (vR 0 (some 0)), some (vI 2), some (vI 0), some (vI 8), none] [] (c, a, q, J) = nVl (-2000000) c (a, q + 1, J) := by
  rw [asks2]
  exact ask1 (a, q, J) (tA146b (a, q, J) hJ h)
theorem kE13 (hJ : nJ κ i c m) : R1 xs nx 2 0 [some (vR 0 (some 0)), some (vI 13), some (vI 40), some (vI 0), none] [] (c, a, q, J) = nVl (-3000000) c (a, q + 1, J) := by
  rw [asks13]
  exact ask0 (a, q, J) (tA161 (a, q, J) (p97n (k := 40) (a, q, J) hJ hJ.1.2.2.1.1 (by decide)))
theorem kE11 (hJ : nJ κ i c m) : R1 xs nx 2 0 [some (vR 0 (some 0)), some (vI 11), some (vI (iN (fL c 19 0).length)), some (vI 0), none] [] (c, a, q, J) = nVl (-3000000) c (a, q + 1, J) := by
  rw [asks11]
  exact ask0 (a, q, J) (tA158 (a, q, J) hJ)
theorem kE11b (hJ : nJ κ i c m) (h : 0 < (fL c 19 0).length) : R1 xs nx 2 0 [some (vR 0 (some 0)), some (vI 11), some (vI 0), some (vI 4), none] [] (c, a, q, J) = nVl (-2000000) c (a, q + 1, J) := by
  rw [asks11]
  exact ask1 (a, q, J) (tA158b (a, q, J) hJ h)
theorem kE12 (hJ : nJ κ i c m) {k : Nat} (hk : k < fN c 26) : R1 xs nx 2 0 [some (vR 0 (some 0)), some (vI 12), some (vI (iN k)), some (vI (-1)), none] [] (c, a, q, J) = nVl (-3000000) c (a, q + 1, J) := by
  rw [asks12]
  exact ask0 (a, q, J) (tA159n (a, q, J) hJ hk)
theorem kE16 (hJ : nJ κ i c m) : R1 xs nx 2 0 [some (vR 0 (some 0)), some (vI 16), some (vI (iN (fN c 26))), some (vI 0), none] [] (c, a, q, J) = nVl (-3000000) c (a, q + 1, J) := by
  rw [asks16]
  exact ask0 (a, q, J) (tA169 (a, q, J) (p97n (a, q, J) hJ (Nat.le_refl _) (by have := hJ.1.2.2.1.1; omega)))
/-- the depots, and the end -/
theorem pl714 (hJ : nJ κ i c m) (hA : pA κ a) (hT : ∀ j, j < 64 → a 2 j = iN (zSm (fun k => plT c m k j) (fN c 26))) : ∀ (n k : Nat) (l8 l9 l10 : Option nV), k + n = 5 → R1 xs nx 4 714 [some (vR 0 (some 0)), some (vR 35 (some 0)), some (vR 79 (some 0)), some (vR 29 (some 0)), some (vR 80 (some 0)), some (vR 2 (some 0)), some (vI 1), some (vI (iN k)), l8, l9, l10] [] (c, a, q, J) = nVl 1 c (a, q + 1 + 1 + 1 + 1, J) := by
  have h26 := hJ.1.2.2.1.1
  intro n
  induction n with
  | zero =>
    intro k l8 l9 l10 e
    have ek : k = 5 := by omega
    subst ek
    obtain ⟨k1, -⟩ := nJ_k hJ
    have z0 : a 80 0 = iN (fN c 23) := by rw [hA.1.1, k1.1]
    have z3 : a 80 3 = iN (fN c 27) := by rw [hA.1.2.2.2.1, k1.2.2.2.1]
    have z4 : a 80 4 = iN (fN c 28) := by rw [hA.1.2.2.2.2, k1.2.2.2.2]
    rw [d_4_714, if_neg (show ¬ iN 5 < (5 : Int32) by decide), d_4_802, if_neg n10, if_pos i60]
    dsimp only
    simp only [t60, z0]
    rw [kE6 hJ, bI_Vl, if_pos rfl, if_pos i63]
    dsimp only
    simp only [t63, z3]
    rw [kE7 hJ, bI_Vl, if_pos rfl, if_pos i64]
    dsimp only
    simp only [t64, z4]
    rw [kE8 hJ, bI_Vl, if_pos rfl, kE14, bI_Vl, if_pos rfl]
    rfl
  | succ n ih =>
    intro k l8 l9 l10 e
    have hk : k < 5 := by omega
    have e52 : (52 : Int32) + iN k = iN (52 + k) := i32_add (a := 52)
    have e47 : (47 : Int32) + iN k = iN (47 + k) := i32_add (a := 47)
    have n52 : (iN (52 + k)).toNatClampNeg = 52 + k := i32_nat (by omega)
    have n47 : (iN (47 + k)).toNatClampNeg = 47 + k := i32_nat (by omega)
    have v52 : a 2 (52 + k) = iN ((fL c 3 k).length + 1000 * tri (fL c 3 k).length) := by rw [hT _ (by omega), plF_dep hJ hk]
    have v47 : a 2 (47 + k) = iN (nCnt (fN c 26) fun x => decide (fP c 9 x 3 = some k)) := by rw [hT _ (by omega), plF_stk hJ hk]
    have hlen := nLin_le (hJ.2.2.2.2.2.2.2.2.2.1.1 k hk)
    obtain ⟨r1, r2, r3⟩ := rowN (L := (fL c 3 k).length) (by omega)
    obtain ⟨x, hx, qx⟩ := q155 (xs := xs) (nx := nx) (a, q, J) hJ hk
    rw [d_4_714, if_pos (show iN k < (5 : Int32) from (iN_lt (b := 5) (by omega) (by omega)).mpr hk), if_neg n10, e52, if_pos (iN_in (show 52 + k < 64 by omega) (by decide)), if_pos (iN_in (show 52 + k < 64 by omega) (by decide))]
    dsimp only
    rw [r1] at r2
    simp only [n52, v52, r1, r2]
    rw [if_pos r3, q162 (a, q, J) hJ hk, bI_Vl, e47, if_pos (iN_in (show 47 + k < 64 by omega) (by decide))]
    dsimp only
    simp only [n47, v47]
    rw [if_true, qx, bI_Vl, if_neg (iN_pos (by omega)), d_4_794, iN_add1]
    exact ih (k + 1) _ _ _ (by omega)
/-- the lockers -/
theorem pl612 (hJ : nJ κ i c m) (hA : pA κ a) (hT : ∀ j, j < 64 → a 2 j = iN (zSm (fun k => plT c m k j) (fN c 26))) : ∀ (n k : Nat) (l8 l9 l10 : Option nV), k + n = fN c 28 → R1 xs nx 4 612 [some (vR 0 (some 0)), some (vR 35 (some 0)), some (vR 79 (some 0)), some (vR 29 (some 0)), some (vR 80 (some 0)), some (vR 2 (some 0)), some (vI 1), some (vI (iN k)), l8, l9, l10] [] (c, a, q, J) = nVl 1 c (a, q + 1 + 1 + 1 + 1, J) := by
  have h28 := hJ.1.2.2.2.2.1.1
  obtain ⟨k1, -⟩ := nJ_k hJ
  have z4 : a 80 4 = iN (fN c 28) := by rw [hA.1.2.2.2.2, k1.2.2.2.2]
  intro n
  induction n with
  | zero =>
    intro k l8 l9 l10 e
    rw [d_4_612, if_pos i64]
    dsimp only
    simp only [t64, z4]
    rw [if_neg (iN_nlt (by omega) (by omega) (by omega)), d_4_711]
    exact pl714 hJ hA hT 5 0 l8 l9 l10 (Nat.zero_add _)
  | succ n ih =>
    intro k l8 l9 l10 e
    have hk : k < fN c 28 := by omega
    have e42 : (42 : Int32) + iN k = iN (42 + k) := i32_add (a := 42)
    have n42 : (iN (42 + k)).toNatClampNeg = 42 + k := i32_nat (by omega)
    have v42 : a 2 (42 + k) = iN (nCnt (fN c 26) fun x => decide (m 66 x = 5 ∧ m 67 x = iN k)) := by rw [hT _ (by omega), plF_loc hJ hk]
    obtain ⟨f1, f2⟩ := plFree hJ hA hk
    have Q1 := q153 (xs := xs) (nx := nx) (a, q, J) hJ hk (j := 1) (by omega) (by omega)
    have Q2 := q153 (xs := xs) (nx := nx) (a, q, J) hJ hk (j := 2) (by omega) (by omega)
    have Q3 := q153 (xs := xs) (nx := nx) (a, q, J) hJ hk (j := 3) (by omega) (by omega)
    rw [show (iN 1 : Int32) = 1 from rfl] at Q1
    rw [show (iN 2 : Int32) = 2 from rfl] at Q2
    rw [show (iN 3 : Int32) = 3 from rfl] at Q3
    rw [d_4_612, if_pos i64]
    dsimp only
    simp only [t64, z4]
    rw [if_pos ((iN_lt (by omega) (by omega)).mpr hk), if_neg n10, Q1, bI_Vl, if_neg (f2 1 (by omega) (by omega)), Q2, bI_Vl, if_neg (f2 2 (by omega) (by omega)), Q3, bI_Vl, if_neg (f2 3 (by omega) (by omega)), Q1, bI_Vl, Q2, bI_Vl, Q3, bI_Vl, e42, if_pos (iN_in (show k < 5 by omega) (by decide)), if_pos (iN_in (show 42 + k < 64 by omega) (by decide))]
    dsimp only
    have hkn : (iN k).toNatClampNeg = k := i32_nat (by omega)
    simp only [n42, v42, hkn, f1]
    rw [if_true, d_4_703, iN_add1]
    exact ih (k + 1) _ _ _ (by omega)
/-- the vans -/
theorem pl565 (hJ : nJ κ i c m) (hi : i / 100000 = 0) (hA : pA κ a) (hT : ∀ j, j < 64 → a 2 j = iN (zSm (fun k => plT c m k j) (fN c 26))) : ∀ (n k : Nat) (l8 l9 l10 : Option nV), k + n = fN c 27 → R1 xs nx 4 565 [some (vR 0 (some 0)), some (vR 35 (some 0)), some (vR 79 (some 0)), some (vR 29 (some 0)), some (vR 80 (some 0)), some (vR 2 (some 0)), some (vI 1), some (vI (iN k)), l8, l9, l10] [] (c, a, q, J) = nVl 1 c (a, q + 1 + 1 + 1 + 1, J) := by
  have h27 := hJ.1.2.2.2.1.1
  obtain ⟨k1, -⟩ := nJ_k hJ
  have z3 : a 80 3 = iN (fN c 27) := by rw [hA.1.2.2.2.1, k1.2.2.2.1]
  intro n
  induction n with
  | zero =>
    intro k l8 l9 l10 e
    rw [d_4_565, if_pos i63]
    dsimp only
    simp only [t63, z3]
    rw [if_neg (iN_nlt (by omega) (by omega) (by omega)), d_4_609]
    exact pl612 hJ hA hT (fN c 28) 0 l8 l9 l10 (Nat.zero_add _)
  | succ n ih =>
    intro k l8 l9 l10 e
    have hk : k < fN c 27 := by omega
    have e36 : (36 : Int32) + iN k = iN (36 + k) := i32_add (a := 36)
    have n36 : (iN (36 + k)).toNatClampNeg = 36 + k := i32_nat (by omega)
    have v36 : a 2 (36 + k) = iN (nCnt (fN c 26) fun x => decide (m 66 x = 4 ∧ m 67 x = iN k)) := by rw [hT _ (by omega), plF_van hJ hk]
    rw [d_4_565, if_pos i63]
    dsimp only
    simp only [t63, z3]
    rw [if_pos ((iN_lt (by omega) (by omega)).mpr hk), if_neg n10, q152 (a, q, J) hJ hi hk, bI_Vl, e36, if_pos (iN_in (show 36 + k < 64 by omega) (by decide))]
    dsimp only
    simp only [n36, v36]
    rw [if_true, d_4_601, iN_add1]
    exact ih (k + 1) _ _ _ (by omega)
/-- the lanes -/
theorem pl450 (hJ : nJ κ i c m) (hi : i / 100000 = 0) (hA : pA κ a) (hc : a 80 5 = m 1 0) (hT : ∀ j, j < 64 → a 2 j = iN (zSm (fun k => plT c m k j) (fN c 26))) : ∀ (n k : Nat) (l8 l9 l10 : Option nV), k + n = fN c 23 → R1 xs nx 4 450 [some (vR 0 (some 0)), some (vR 35 (some 0)), some (vR 79 (some 0)), some (vR 29 (some 0)), some (vR 80 (some 0)), some (vR 2 (some 0)), some (vI 1), some (vI (iN k)), l8, l9, l10] [] (c, a, q, J) = nVl 1 c (a, q + 1 + 1 + 1 + 1, J) := by
  have h23 := hJ.1.1.1
  have h26 := hJ.1.2.2.1.1
  obtain ⟨k1, -⟩ := nJ_k hJ
  have z0 : a 80 0 = iN (fN c 23) := by rw [hA.1.1, k1.1]
  intro n
  induction n with
  | zero =>
    intro k l8 l9 l10 e
    rw [d_4_450, if_pos i60]
    dsimp only
    simp only [t60, z0]
    rw [if_neg (iN_nlt (by omega) (by omega) (by omega)), d_4_562]
    exact pl565 hJ hi hA hT (fN c 27) 0 l8 l9 l10 (Nat.zero_add _)
  | succ n ih =>
    intro k l8 l9 l10 e
    have hk : k < fN c 23 := by omega
    have e10 : (10 : Int32) + iN k = iN (10 + k) := i32_add (a := 10)
    have e24 : (24 : Int32) + iN k = iN (24 + k) := i32_add (a := 24)
    have t10 : (iN (10 + k)).toNatClampNeg = 10 + k := i32_nat (by omega)
    have t24 : (iN (24 + k)).toNatClampNeg = 24 + k := i32_nat (by omega)
    have v10 : a 2 (10 + k) = iN ((fL c 5 k).length + 1000 * tri (fL c 5 k).length) := by rw [hT _ (by omega), plF_row hJ hk]
    have v24 : a 2 (24 + k) = iN (fL c 6 k).length := by rw [hT _ (by omega), plF_lan hJ hk]
    have hlen := nJ_row hJ k hk
    obtain ⟨r1, r2, r3⟩ := rowN (L := (fL c 5 k).length) (by omega)
    have hw := (hJ.2.2.2.1.1 k hk).2.2.2.2.2.2.2.2.2.2
    have hwt : ¬ (if m 44 k = -1 then (-1 : Int32) else m 1 0 - m 44 k) < -1 ∧ ¬ m 1 0 < (if m 44 k = -1 then (-1 : Int32) else m 1 0 - m 44 k) := by
      obtain ⟨-, t, -, ht, et⟩ := nJ_ck hJ
      rcases hw with hw | ⟨⟨y, -, hy, ey⟩, hle⟩
      · rw [if_pos hw, et]
        exact ⟨by decide, fun z => absurd (Int32.lt_trans z (show (-1 : Int32) < 0 by decide)) (iN_pos (by omega))⟩
      · rw [ey, et, Int32.le_iff_toInt_le, iN_toInt (by omega), iN_toInt (by omega)] at hle
        rw [ey, if_neg (iN_ne1 (by omega)), et, show iN t - iN y = iN (t - y) from i32_sub (by omega) (by omega)]
        exact ⟨fun z => iN_pos (show t - y < 2 ^ 31 by omega) (Int32.lt_trans z (show (-1 : Int32) < 0 by decide)), iN_nlt (by omega) (by omega) (by omega)⟩
    rw [d_4_450, if_pos i60]
    dsimp only
    simp only [t60, z0]
    rw [if_pos ((iN_lt (by omega) (by omega)).mpr hk), if_neg n10, e10, if_pos (iN_in (show 10 + k < 64 by omega) (by decide)), if_pos (iN_in (show 10 + k < 64 by omega) (by decide))]
    rw [r1] at r2
    simp only [t10, v10, r1, r2]
    rw [if_pos r3, if_pos (show iN (fL c 5 k).length < (21 : Int32) from (iN_lt (b := 21) (by omega) (by omega)).mpr (by omega)), q150 (a, q, J) hJ hk, bI_Vl, e24, if_pos (iN_in (show 24 + k < 64 by omega) (by decide))]
    dsimp only
    simp only [t24, v24]
    rw [if_true, q149 (a, q, J) hJ hk, bI_Vl, if_neg hwt.1, q149 (a, q, J) hJ hk, bI_Vl, if_pos i65]
    dsimp only
    simp only [t65, hc]
    rw [if_neg hwt.2, d_4_554, iN_add1]
    exact ih (k + 1) _ _ _ (by omega)
/-- how many there are of each kind -/
theorem pl408 (hJ : nJ κ i c m) (hi : i / 100000 = 0) (hA : pA κ a) (hc : a 80 5 = m 1 0) (hT : ∀ j, j < 64 → a 2 j = iN (zSm (fun k => plT c m k j) (fN c 26))) : ∀ (n k : Nat) (l8 l9 l10 : Option nV), k + n = 9 → R1 xs nx 4 408 [some (vR 0 (some 0)), some (vR 35 (some 0)), some (vR 79 (some 0)), some (vR 29 (some 0)), some (vR 80 (some 0)), some (vR 2 (some 0)), some (vI 1), some (vI (iN k)), l8, l9, l10] [] (c, a, q, J) = nVl 1 c (a, q + 1 + 1 + 1 + 1, J) := by
  intro n
  induction n with
  | zero =>
    intro k l8 l9 l10 e
    rw [d_4_408, if_neg (show ¬ iN k < (9 : Int32) from iN_nlt (b := 9) (by omega) (by omega) (by omega)), d_4_447]
    exact pl450 hJ hi hA hc hT (fN c 23) 0 l8 l9 l10 (Nat.zero_add _)
  | succ n ih =>
    intro k l8 l9 l10 e
    have v : a 2 k = iN (nCnt (fN c 26) fun x => decide (m 66 x = iN k)) := by rw [hT _ (by omega), plF_cnt hJ (by omega)]
    rw [d_4_408, if_pos (show iN k < (9 : Int32) from (iN_lt (b := 9) (by omega) (by omega)).mpr (by omega)), if_neg n10, q147 (a, q, J) hJ (show k ≤ 8 by omega), bI_Vl, if_pos (iN_in (show k < 64 by omega) (by decide))]
    dsimp only
    have hkn : (iN k).toNatClampNeg = k := i32_nat (by omega)
    simp only [hkn, v]
    rw [if_true, d_4_439, iN_add1]
    exact ih (k + 1) _ _ _ (by omega)
/-- the table is cleared -/
theorem pl53 {a6 : Int32} : ∀ (n k : Nat) (a : nM), k + n = 64 → ∃ a2 : nM, (∀ t, t ≠ 2 → a2 t = a t) ∧ (∀ j, k ≤ j → j < 64 → a2 2 j = 0) ∧ (∀ j, j < k → a2 2 j = a 2 j) ∧ R1 xs nx 4 53 [some (vR 0 (some 0)), some (vR 35 (some 0)), some (vR 79 (some 0)), some (vR 29 (some 0)), some (vR 80 (some 0)), some (vR 2 (some 0)), some (vI a6), some (vI (iN k)), none, none, none] [] (c, a, q, J) = R1 xs nx 4 75 [some (vR 0 (some 0)), some (vR 35 (some 0)), some (vR 79 (some 0)), some (vR 29 (some 0)), some (vR 80 (some 0)), some (vR 2 (some 0)), some (vI a6), some (vI 0), none, none, none] [] (c, a2, q, J) := by
  intro n
  induction n with
  | zero =>
    intro k a e
    refine ⟨a, fun _ _ => rfl, fun j h1 h2 => by omega, fun _ _ => rfl, ?_⟩
    rw [d_4_53, if_neg (show ¬ iN k < (64 : Int32) from iN_nlt (b := 64) (by omega) (by omega) (by omega))]
  | succ n ih =>
    intro k a e
    obtain ⟨a2, h1, h2, h3, h4⟩ := ih (k + 1) (uM 2 k 0 a) (by omega)
    refine ⟨a2, fun t ht => by rw [h1 t ht, uM_ne ht], fun j j1 j2 => ?_, fun j j1 => by rw [h3 j (by omega), uM_at, if_neg (by omega)], ?_⟩
    · by_cases ej : j = k
      · rw [ej, h3 k (Nat.lt_succ_self k), uM_at, if_pos rfl]
      · exact h2 j (by omega) j2
    · rw [d_4_53, if_pos (show iN k < (64 : Int32) from (iN_lt (b := 64) (by omega) (by omega)).mpr (by omega)), if_pos (iN_in (show k < 64 by omega) (by decide)), iN_add1]
      dsimp only
      rw [i32_nat (show k < 2 ^ 31 by omega)]
      exact h4
/-- the law finds all parcels in one place -/
theorem arePl (hJ : nJ κ i c m) (hi : i / 100000 = 0) (hA : pA κ a) (hc : a 80 5 = m 1 0) : ∃ a2 : nM, (∀ t, t ≠ 2 → a2 t = a t) ∧ R1 xs nx 4 0 [some (vR 0 (some 0)), some (vR 35 (some 0)), some (vR 79 (some 0)), some (vR 29 (some 0)), some (vR 80 (some 0)), some (vR 2 (some 0)), none, none, none, none, none] [] (c, a, q, J) = nVl 1 c (a2, q + 7, J) := by
  have h26 := hJ.1.2.2.1.1
  have g2 : a 80 2 = iN (fN c 26) := by rw [hA.1.2.2.1, (nJ_k hJ).1.2.2.1]
  obtain ⟨a1, b1, b2, -, b4⟩ := pl53 (xs := xs) (nx := nx) (c := c) (q := q + 1 + 1 + 1) (J := J) (a6 := 1) 64 0 a (Nat.zero_add _)
  obtain ⟨a2, r8, r9, r10, x1, x2, x3⟩ := plcL (xs := xs) (nx := nx) (q := q + 1 + 1 + 1) (J := J) hJ (fN c 26) 0 a1 none none none (Nat.zero_add _) (pA_2 hA b1) (fun j hj => b2 j (Nat.zero_le _) hj)
  refine ⟨a2, fun t ht => by rw [x1 t ht, b1 t ht], ?_⟩
  rw [d_4_0, if_pos i62]
  dsimp only
  simp only [t62, g2]
  rw [kE0 hJ, bI_Vl, if_pos rfl, kE3, bI_Vl, if_pos rfl, if_pos i62]
  dsimp only
  simp only [t62, g2]
  rw [kE4 hJ, bI_Vl, if_pos rfl, d_4_48]
  have b4' := b4
  rw [show (iN 0 : Int32) = 0 from rfl] at b4' x3
  rw [b4', x3, d_4_405]
  exact pl408 (q := q + 1 + 1 + 1) hJ hi (pA_2 hA (fun t ht => by rw [x1 t ht, b1 t ht])) (by rw [x1 80 (by decide), b1 80 (by decide)]; exact hc) x2 9 0 _ _ _ (Nat.zero_add _)
end PLN
end KAP
