/-! ===== isChanged: fetch, merge: made by wip/p46/gen2/mk98zw.py ===== -/
section KAP
variable {κ κ' : kP}
section CHW
variable {xs : Nat → Int32} {nx : Nat} {i : Nat} {c : nC} {m a : nM} {q : Nat} {J : Nat → Int64}
/-- a code that no locker has -/
theorem ch6n (hi : i + 2 < 512) (hJ : nJ κ i c m) (hA : pA κ a) {one two t : Nat} (h1 : one < 60000) (h2 : two < 70000) (th wh cu ac bd : Int32) (hw : ¬ wh = 5) : lRes3 xs nx (R1 xs nx 10 94 [some (vR 0 (some 0)), some (vR 35 (some 0)), some (vR 45 (some 0)), some (vR 29 (some 0)), some (vR 80 (some 0)), some (vI 6), some (vI (iN one)), some (vI (iN two)), some (vI (iN t)), some (vI th), some (vI wh), some (vI cu), some (vI ac), none, none, none, none, none, none, none, none] [vI bd] (c, a, q, J)) i 2 c m a q J := by
  have h28 := hJ.1.2.2.2.2.1.1
  have z4 : a 80 4 = iN (fN c 28) := by rw [hA.1.2.2.2.2, (nJ_k hJ).1.2.2.2.2]
  have e6 : iN one - iN one / (6 : Int32) * 6 = iN (one % 6) := mdN 6 (by omega) (by omega)
  have e9 : iN two - iN two / (9000 : Int32) * 9000 = iN (two % 9000) := mdN 9000 (by omega) (by omega)
  have es : iN (two % 9000) + (11000 : Int32) = iN (two % 9000 + 11000) := i32_add (b := 11000)
  have st : R1 xs nx 10 94 [some (vR 0 (some 0)), some (vR 35 (some 0)), some (vR 45 (some 0)), some (vR 29 (some 0)), some (vR 80 (some 0)), some (vI 6), some (vI (iN one)), some (vI (iN two)), some (vI (iN t)), some (vI th), some (vI wh), some (vI cu), some (vI ac), none, none, none, none, none, none, none, none] [vI bd] (c, a, q, J) = _ := d_10_94 _ _ _ _ _ _ _ _ _ _
  rw [if_neg (show ¬ (6 : Int32) = 0 by decide), if_neg (show ¬ (6 : Int32) = 1 by decide), if_neg (show ¬ (6 : Int32) = 2 by decide), if_neg (show ¬ (6 : Int32) = 3 by decide), if_neg (show ¬ (6 : Int32) = 4 by decide), if_neg (show ¬ (6 : Int32) = 5 by decide), if_pos (show (6 : Int32) = 6 from rfl), if_neg hw, d_10_816, if_pos rfl, d_10_837, if_pos rfl, e9, d_10_865, if_pos rfl, d_10_883, e6, es] at st
  obtain ⟨κ', c', m', hJ', hd⟩ := do21 (xs := xs) (nx := nx) (a := a) (q := q) (J := J) (by omega) hJ (iN (one % 6)) (iN (two % 9000 + 11000)) 0 0 0 0
  rcases hd with ⟨v, ⟨k, u, -, k1, -, ⟨w5, -, w7⟩, -⟩, hr⟩ | ⟨-, ⟨f, hr⟩ | ⟨f, hr⟩ | ⟨f, hr⟩⟩
  · exfalso
    rcases plSt hJ k1 with ⟨z, -⟩ | ⟨z, -⟩ | ⟨z, -⟩ | ⟨z, -⟩ | ⟨z, -⟩ | ⟨z, d, hd, h7, h3, hcd⟩ | ⟨z, -⟩ | ⟨z, -⟩ | ⟨z, -⟩
    rotate_right 4
    · obtain ⟨n, n1, n2, n3⟩ := hcd
      have := (iN_inj (by omega) (by omega)).mp (n3.symm.trans w7)
      omega
    all_goals exact absurd (z.symm.trans w5) (by decide)
  · have f : ¬ ∃ k, k < fN c 28 ∧ iN (one % 6) = iN k := f
    rw [hr, bI_Vl, if_pos i64] at st
    dsimp only at st
    simp only [t64, z4] at st
    rw [if_neg (fun z => f ⟨one % 6, (iN_lt (by omega) (by omega)).mp z, rfl⟩), if_true] at st
    exact ⟨κ, i, c, m, q + 1, by omega, by omega, by omega, hJ, hA, rfl, st⟩
  · exact (show False from f).elim
  · obtain ⟨⟨k, k1, k2⟩, -⟩ : (∃ k, k < fN c 28 ∧ iN (one % 6) = iN k) ∧ _ := f
    have ek : one % 6 = k := (iN_inj (by omega) (by omega)).mp k2
    rw [hr, bI_Vl, if_pos i64] at st
    dsimp only at st
    simp only [t64, z4] at st
    rw [if_pos ((iN_lt (by omega) (by omega)).mpr (show one % 6 < fN c 28 by omega)), if_true, if_true] at st
    exact ⟨κ, i, c, m, q + 1, by omega, by omega, by omega, hJ, hA, rfl, st⟩
/-- a locker's own code -/
theorem ch6y (hi : i + 2 < 512) (hJ : nJ κ i c m) (hA : pA κ a) {one two t u : Nat} {bd : Int32} (hT : t < fN c 26) (hu : u < 4) (e49 : m 49 t = iN u) (h5 : m 66 t = 5) : lRes3 xs nx (R1 xs nx 10 94 [some (vR 0 (some 0)), some (vR 35 (some 0)), some (vR 45 (some 0)), some (vR 29 (some 0)), some (vR 80 (some 0)), some (vI 6), some (vI (iN one)), some (vI (iN two)), some (vI (iN t)), some (vI 1), some (vI (m 66 t)), some (vI (iN u)), some (vI (m 90 u)), none, none, none, none, none, none, none, none] [vI bd] (c, a, q, J)) i 2 c m a q J := by
  have h26 := hJ.1.2.2.1.1
  have h28 := hJ.1.2.2.2.2.1.1
  have z4 : a 80 4 = iN (fN c 28) := by rw [hA.1.2.2.2.2, (nJ_k hJ).1.2.2.2.2]
  obtain ⟨l, l1, l2⟩ : ∃ l, l < fN c 28 ∧ m 67 t = iN l := by
    rcases plSt hJ hT with ⟨z, -⟩ | ⟨z, -⟩ | ⟨z, -⟩ | ⟨z, -⟩ | ⟨z, -⟩ | ⟨z, d, hd, h7, h3, hcd⟩ | ⟨z, -⟩ | ⟨z, -⟩ | ⟨z, -⟩
    rotate_right 4
    · exact ⟨d, hd, h7⟩
    all_goals exact absurd (z.symm.trans h5) (by decide)
  have st : R1 xs nx 10 94 [some (vR 0 (some 0)), some (vR 35 (some 0)), some (vR 45 (some 0)), some (vR 29 (some 0)), some (vR 80 (some 0)), some (vI 6), some (vI (iN one)), some (vI (iN two)), some (vI (iN t)), some (vI 1), some (vI (m 66 t)), some (vI (iN u)), some (vI (m 90 u)), none, none, none, none, none, none, none, none] [vI bd] (c, a, q, J) = _ := d_10_94 _ _ _ _ _ _ _ _ _ _
  rw [if_neg (show ¬ (6 : Int32) = 0 by decide), if_neg (show ¬ (6 : Int32) = 1 by decide), if_neg (show ¬ (6 : Int32) = 2 by decide), if_neg (show ¬ (6 : Int32) = 3 by decide), if_neg (show ¬ (6 : Int32) = 4 by decide), if_neg (show ¬ (6 : Int32) = 5 by decide), if_pos (show (6 : Int32) = 6 from rfl), if_pos h5, d_10_816, if_neg n10, q145 _ hJ hT, bI_Vl, d_10_837, if_neg n10, q146_6 _ hJ hT, if_pos h5, bI_Vl, d_10_865, if_neg n10, q146_5 _ hJ hT, bI_Vl, d_10_883] at st
  obtain ⟨κ', c', m', hJ', hd⟩ := do21 (xs := xs) (nx := nx) (a := a) (q := q) (J := J) (by omega) hJ (m 67 t) (m 72 t) 0 0 0 0
  rcases hd with ⟨v, ⟨k, w, -, k1, k2, ⟨w5, w6, w7⟩, kmin, w1, w2, p66, p90, pk, p4⟩, hr⟩ | ⟨-, ⟨f, hr⟩ | ⟨f, hr⟩ | ⟨f, hr⟩⟩
  · have hle : k ≤ t := by
      rcases Nat.lt_or_ge t k with z | z
      · exact absurd ⟨h5, rfl, rfl⟩ (kmin t z)
      · exact z
    have hN := n26_of hJ hJ' (by rw [pk])
    have hT' : k < fN c' 26 := by omega
    rw [hr, bI_Vl, if_pos i64] at st
    dsimp only at st
    simp only [t64, z4] at st
    rw [if_pos (show m 67 t < iN (fN c 28) by rw [l2]; exact (iN_lt (by omega) (by omega)).mpr l1), if_neg n10, k2, if_neg (iN_pos (by omega)), if_neg (iN_nlt hle (by omega) (by omega)), q144 _ hJ' hT', bI_Vl, if_pos p66] at st
    have fin : R1 xs nx 10 94 [some (vR 0 (some 0)), some (vR 35 (some 0)), some (vR 45 (some 0)), some (vR 29 (some 0)), some (vR 80 (some 0)), some (vI 6), some (vI (iN one)), some (vI (iN two)), some (vI (iN t)), some (vI 1), some (vI (m 66 t)), some (vI (iN u)), some (vI (m 90 u)), none, none, none, none, none, none, none, none] [vI bd] (c, a, q, J) = nVl 1 c' (a, q, J) := by
      by_cases hlt : k < t
      · rw [if_pos ((iN_lt (by omega) (by omega)).mpr hlt)] at st
        exact st
      · have ek : k = t := by omega
        rw [ek] at w2 p90
        have ew : u = w := (iN_inj (by omega) (by omega)).mp (e49.symm.trans w2)
        rw [← ew] at p90
        rw [if_neg (iN_nlt (by omega) (by omega) (by omega)), q154 _ hJ' hu, bI_Vl] at st
        by_cases hs : m' 90 u = m 90 u
        · rw [if_pos hs] at st
          exact st
        · rw [if_neg hs, q154 _ hJ' hu, bI_Vl, if_pos (p90.resolve_left hs)] at st
          exact st
    exact ⟨κ', i + 1, c', m', q, by omega, by omega, by omega, hJ', pA_κ hA (by rw [pk]), p4, fin⟩
  · exact absurd ⟨l, l1, l2⟩ (show ¬ ∃ k, k < fN c 28 ∧ m 67 t = iN k from f)
  · exact (show False from f).elim
  · obtain ⟨-, f⟩ : _ ∧ ∀ k, k < fN c 26 → ¬ (m 66 k = 5 ∧ m 67 k = m 67 t ∧ m 72 k = m 72 t) := f
    exact absurd ⟨h5, rfl, rfl⟩ (f t hT)
/-- no two have a customer and a reference in common: one row -/
theorem mg1367 (hJ : nJ κ i c m) {k : Nat} (hk : k < fN c 26) (a5 a6 a7 a8 a9 a10 a11 a12 a13 a14 a15 a16 a17 : Int32) : ∀ (l j : Nat), j + l = k → ∃ z : Option nV, R1 xs nx 10 1367 [some (vR 0 (some 0)), some (vR 35 (some 0)), some (vR 45 (some 0)), some (vR 29 (some 0)), some (vR 80 (some 0)), some (vI a5), some (vI a6), some (vI a7), some (vI a8), some (vI a9), some (vI a10), some (vI a11), some (vI a12), some (vI a13), some (vI a14), some (vI a15), some (vI a16), some (vI a17), some (vI 1), some (vI (iN k)), some (vI (iN j))] [] (c, a, q, J) = R1 xs nx 10 1331 [some (vR 0 (some 0)), some (vR 35 (some 0)), some (vR 45 (some 0)), some (vR 29 (some 0)), some (vR 80 (some 0)), some (vI a5), some (vI a6), some (vI a7), some (vI a8), some (vI a9), some (vI a10), some (vI a11), some (vI a12), some (vI a13), some (vI a14), some (vI a15), some (vI a16), some (vI a17), some (vI 1), some (vI (iN (k + 1))), z] [] (c, a, q, J) := by
  have h26 := hJ.1.2.2.1.1
  intro l
  induction l with
  | zero =>
    intro j e
    have ej : j = k := by omega
    subst ej
    refine ⟨some (vI (iN j)), ?_⟩
    rw [d_10_1367, if_neg (iN_nlt (Nat.le_refl _) (by omega) (by omega)), d_10_1426, iN_add1]
  | succ l ih =>
    intro j e
    have hj : j < k := by omega
    have hj26 : j < fN c 26 := by omega
    obtain ⟨z, hz⟩ := ih (j + 1) (by omega)
    refine ⟨z, ?_⟩
    rw [d_10_1367, if_pos ((iN_lt (by omega) (by omega)).mpr hj), if_neg n10, q146_1 _ hJ hj26, bI_Vl, q146_1 _ hJ hk, bI_Vl]
    have go : R1 xs nx 10 1413 [some (vR 0 (some 0)), some (vR 35 (some 0)), some (vR 45 (some 0)), some (vR 29 (some 0)), some (vR 80 (some 0)), some (vI a5), some (vI a6), some (vI a7), some (vI a8), some (vI a9), some (vI a10), some (vI a11), some (vI a12), some (vI a13), some (vI a14), some (vI a15), some (vI a16), some (vI a17), some (vI 1), some (vI (iN k)), some (vI (iN j))] [] (c, a, q, J) = R1 xs nx 10 1331 [some (vR 0 (some 0)), some (vR 35 (some 0)), some (vR 45 (some 0)), some (vR 29 (some 0)), some (vR 80 (some 0)), some (vI a5), some (vI a6), some (vI a7), some (vI a8), some (vI a9), some (vI a10), some (vI a11), some (vI a12), some (vI a13), some (vI a14), some (vI a15), some (vI a16), some (vI a17), some (vI 1), some (vI (iN (k + 1))), z] [] (c, a, q, J) := by
      rw [d_10_1413, d_10_1418, iN_add1]
      exact hz
    by_cases h : m 49 j = m 49 k
    · rw [if_pos h, q146_0 _ hJ hj26, bI_Vl, q146_0 _ hJ hk, bI_Vl, if_neg (nJ_uni hJ j k hj hk h)]
      exact go
    · rw [if_neg h]
      exact go
theorem mg1331 (hJ : nJ κ i c m) (hA : pA κ a) {x : Int32} (hx : ∀ k, k < fN c 26 → m 49 k ≠ x) (a5 a6 a7 a8 a9 a10 a11 a12 a13 a15 a16 a17 : Int32) : ∀ (l k : Nat) (z : Option nV), k + l = fN c 26 → R1 xs nx 10 1331 [some (vR 0 (some 0)), some (vR 35 (some 0)), some (vR 45 (some 0)), some (vR 29 (some 0)), some (vR 80 (some 0)), some (vI a5), some (vI a6), some (vI a7), some (vI a8), some (vI a9), some (vI a10), some (vI a11), some (vI a12), some (vI a13), some (vI x), some (vI a15), some (vI a16), some (vI a17), some (vI 1), some (vI (iN k)), z] [] (c, a, q, J) = nVl 1 c (a, q, J) := by
  have h26 := hJ.1.2.2.1.1
  have z2 : a 80 2 = iN (fN c 26) := by rw [hA.1.2.2.1, (nJ_k hJ).1.2.2.1]
  intro l
  induction l with
  | zero =>
    intro k z e
    have ek : k = fN c 26 := by omega
    subst ek
    rw [d_10_1331, if_pos i62]
    dsimp only
    simp only [t62, z2]
    rw [if_neg (iN_nlt (Nat.le_refl _) (by omega) (by omega)), if_pos (Or.inr trivial)]
    rfl
  | succ l ih =>
    intro k z e
    have hk : k < fN c 26 := by omega
    rw [d_10_1331, if_pos i62]
    dsimp only
    simp only [t62, z2]
    rw [if_pos ((iN_lt (by omega) (by omega)).mpr hk), if_neg n10, q146_1 _ hJ hk, bI_Vl, if_neg (hx k hk), d_10_1362]
    obtain ⟨z', hz⟩ := mg1367 (xs := xs) (nx := nx) (a := a) (q := q) (J := J) hJ hk a5 a6 a7 a8 a9 a10 a11 a12 a13 x a15 a16 a17 k 0 (Nat.zero_add _)
    rw [show (iN 0 : Int32) = 0 from rfl] at hz
    rw [hz]
    exact ih (k + 1) z' (by omega)
/-- a merge -/
theorem ch8 (hi : i + 2 < 512) (hJ : nJ κ i c m) (hA : pA κ a) {one two t : Nat} (h1 : one < 60000) (h2 : two < 70000) (th wh cu ac bd : Int32) : lRes3 xs nx (R1 xs nx 10 94 [some (vR 0 (some 0)), some (vR 35 (some 0)), some (vR 45 (some 0)), some (vR 29 (some 0)), some (vR 80 (some 0)), some (vI 8), some (vI (iN one)), some (vI (iN two)), some (vI (iN t)), some (vI th), some (vI wh), some (vI cu), some (vI ac), none, none, none, none, none, none, none, none] [vI bd] (c, a, q, J)) i 2 c m a q J := by
  have e5 : iN one - iN one / (5 : Int32) * 5 = iN (one % 5) := mdN 5 (by omega) (by omega)
  have e4 : iN two - iN two / (4 : Int32) * 4 = iN (two % 4) := mdN 4 (by omega) (by omega)
  have st : R1 xs nx 10 94 [some (vR 0 (some 0)), some (vR 35 (some 0)), some (vR 45 (some 0)), some (vR 29 (some 0)), some (vR 80 (some 0)), some (vI 8), some (vI (iN one)), some (vI (iN two)), some (vI (iN t)), some (vI th), some (vI wh), some (vI cu), some (vI ac), none, none, none, none, none, none, none, none] [vI bd] (c, a, q, J) = _ := d_10_94 _ _ _ _ _ _ _ _ _ _
  rw [if_neg (show ¬ (8 : Int32) = 0 by decide), if_neg (show ¬ (8 : Int32) = 1 by decide), if_neg (show ¬ (8 : Int32) = 2 by decide), if_neg (show ¬ (8 : Int32) = 3 by decide), if_neg (show ¬ (8 : Int32) = 4 by decide), if_neg (show ¬ (8 : Int32) = 5 by decide), if_neg (show ¬ (8 : Int32) = 6 by decide), if_neg (show ¬ (8 : Int32) = 7 by decide), e5, e4] at st
  have n4 : one % 5 ≠ 4 → ¬ iN (one % 5) = (4 : Int32) := fun h z => h ((iN_inj (b := 4) (by omega) (by omega)).mp z)
  have nab : one % 5 ≠ two % 4 → ¬ iN (one % 5) = iN (two % 4) := fun h z => h ((iN_inj (by omega) (by omega)).mp z)
  have u4 : ∀ {x : Nat}, x < 4 → ∃ d, d < 4 ∧ iN x = iN d := fun h => ⟨_, h, rfl⟩
  obtain ⟨κ', c', m', hJ', hd⟩ := do23 (xs := xs) (nx := nx) (a := a) (q := q) (J := J) (by omega) hJ (iN (one % 5)) (iN (two % 4)) 0 0 0 0
  by_cases h4 : one % 5 = 4
  · rw [if_pos (show iN (one % 5) = (4 : Int32) by rw [h4]; rfl), d_10_1229] at st
    rcases hd with ⟨v, ⟨⟨x, y, x1, -, x2, -⟩, -⟩, hr⟩ | ⟨-, ⟨f, hr⟩ | ⟨f, hr⟩ | ⟨f, hr⟩⟩
    · have := (iN_inj (by omega) (by omega)).mp x2
      omega
    · rw [hr, bI_Vl, if_pos (show iN (one % 5) = (4 : Int32) by rw [h4]; rfl), d_10_1256, if_pos rfl] at st
      exact ⟨κ, i, c, m, q + 1, by omega, by omega, by omega, hJ, hA, rfl, st⟩
    · exact absurd (show iN (one % 5) = iN (two % 4) from f) (nab (by omega))
    · exact (show False from f).elim
  · rw [if_neg (n4 h4)] at st
    by_cases hab : one % 5 = two % 4
    · rw [if_pos (by rw [hab]), d_10_1229] at st
      rcases hd with ⟨v, ⟨⟨x, y, x1, y1, x2, y2, hxy, -⟩, -⟩, hr⟩ | ⟨-, ⟨f, hr⟩ | ⟨f, hr⟩ | ⟨f, hr⟩⟩
      · have g1 := (iN_inj (by omega) (by omega)).mp x2
        have g2 := (iN_inj (by omega) (by omega)).mp y2
        omega
      · have f : (¬ ∃ d, d < 4 ∧ iN (one % 5) = iN d) ∨ ¬ ∃ d, d < 4 ∧ iN (two % 4) = iN d := f
        rcases f with f | f
        · exact absurd (u4 (by omega)) f
        · exact absurd (u4 (by omega)) f
      · rw [hr, bI_Vl, if_neg (n4 h4), d_10_1256, if_pos rfl] at st
        exact ⟨κ, i, c, m, q + 1, by omega, by omega, by omega, hJ, hA, rfl, st⟩
      · exact (show False from f).elim
    · rw [if_neg (nab hab), q154 _ hJ (show one % 5 < 4 by omega), bI_Vl, q154 _ hJ (show two % 4 < 4 by omega), bI_Vl] at st
      rcases hd with ⟨v, ⟨⟨x, y, x1, y1, x2, y2, hxy, p90, q90, pno, pv⟩, pk, p4⟩, hr⟩ | ⟨-, ⟨f, hr⟩ | ⟨f, hr⟩ | ⟨f, hr⟩⟩
      · have g1 : one % 5 = x := (iN_inj (by omega) (by omega)).mp x2
        have g2 : two % 4 = y := (iN_inj (by omega) (by omega)).mp y2
        have hN := n26_of hJ hJ' (by rw [pk])
        rw [hr, bI_Vl, if_neg (nIn_nn pv (by decide)), q154 _ hJ' (show one % 5 < 4 by omega), bI_Vl, if_pos (by rw [g1]; exact p90), q154 _ hJ' (show two % 4 < 4 by omega), bI_Vl, if_pos (by rw [g1, g2, q90, Int32.add_comm]), d_10_1326, show (0 : Int32) = iN 0 from rfl] at st
        refine ⟨κ', i + 1, c', m', q, by omega, by omega, by omega, hJ', pA_κ hA (by rw [pk]), p4, st.trans ?_⟩
        exact mg1331 hJ' (pA_κ hA (by rw [pk])) (fun k hk => pno k (by omega)) _ _ _ _ _ _ _ _ _ _ _ _ (fN c' 26) 0 none (Nat.zero_add _)
      · have f : (¬ ∃ d, d < 4 ∧ iN (one % 5) = iN d) ∨ ¬ ∃ d, d < 4 ∧ iN (two % 4) = iN d := f
        rcases f with f | f
        · exact absurd (u4 (by omega)) f
        · exact absurd (u4 (by omega)) f
      · exact absurd (show iN (one % 5) = iN (two % 4) from f) (nab hab)
      · exact (show False from f).elim
/-- the law changes something -/
theorem isCh (hi : i + 2 < 512) (hJ : nJ κ i c m) (hA : pA κ a) {one two w : Nat} (hw : w < 9) (h1 : one < 60000) (h2 : two < 70000) : lRes xs nx 10 [some (vR 0 (some 0)), some (vR 35 (some 0)), some (vR 45 (some 0)), some (vR 29 (some 0)), some (vR 80 (some 0)), some (vI (iN w)), some (vI (iN one)), some (vI (iN two)), none, none, none, none, none, none, none, none, none, none, none, none, none] i 2 c m a q J := by
  have h26 := hJ.1.2.2.1.1
  obtain ⟨t, ht⟩ : ∃ t, t = one % (fN c 26 + 1) := ⟨_, rfl⟩
  have hlt := Nat.mod_lt one (show 0 < fN c 26 + 1 by omega)
  have t40 : t ≤ 40 := by omega
  suffices h : lRes3 xs nx (R1 xs nx 10 0 [some (vR 0 (some 0)), some (vR 35 (some 0)), some (vR 45 (some 0)), some (vR 29 (some 0)), some (vR 80 (some 0)), some (vI (iN w)), some (vI (iN one)), some (vI (iN two)), none, none, none, none, none, none, none, none, none, none, none, none, none] [] (c, a, q, J)) i 2 c m a q J by
    obtain ⟨κ', i', c', m', q', b1, b2, b3, b4, b5, b6, b7⟩ := h
    exact ⟨κ', i', c', m', a, q', b1, b2, b3, b4, b5, b6, rfl, b7⟩
  by_cases hT : t < fN c 26
  · obtain ⟨u, bd, hu, e49, hbd, hst⟩ := chY (xs := xs) (nx := nx) (q := q) (J := J) hJ hA (two := two) h1 ht hT (iN w)
    rw [hst]
    obtain rfl | rfl | rfl | rfl | rfl | rfl | rfl | rfl | rfl : w = 0 ∨ w = 1 ∨ w = 2 ∨ w = 3 ∨ w = 4 ∨ w = 5 ∨ w = 6 ∨ w = 7 ∨ w = 8 := by omega
    · exact chY0 hi hJ hA h1 h2 hT hu e49 hbd
    · exact chY1 hi hJ hA h1 h2 hT hu e49 hbd
    · exact chY2 hi hJ hA h1 h2 hT hu e49 hbd
    · exact chY3 hi hJ hA h1 h2 hT hu e49 hbd
    · exact chY4 hi hJ hA h1 h2 hT hu e49 hbd
    · exact chY5 hi hJ hA h1 h2 hT hu e49 hbd
    · by_cases h5 : m 66 t = 5
      · exact ch6y hi hJ hA hT hu e49 h5
      · exact ch6n hi hJ hA h1 h2 _ _ _ _ _ h5
    · exact chY7 hi hJ hA h1 h2 hT hu e49 hbd
    · exact ch8 hi hJ hA h1 h2 _ _ _ _ _
  · have hst := chN (xs := xs) (nx := nx) (q := q) (J := J) hJ hA (two := two) h1 ht hT (iN w)
    rw [hst]
    obtain rfl | rfl | rfl | rfl | rfl | rfl | rfl | rfl | rfl : w = 0 ∨ w = 1 ∨ w = 2 ∨ w = 3 ∨ w = 4 ∨ w = 5 ∨ w = 6 ∨ w = 7 ∨ w = 8 := by omega
    · exact chN0 hi hJ hA h2 t40 hT
    · exact chN1 hi hJ hA h2 t40 hT
    · exact chN2 hi hJ hA h2 t40 hT
    · exact chN3 hi hJ hA h2 t40 hT
    · exact chN4 hi hJ hA h2 t40 hT
    · exact chN5 hi hJ hA h2 t40 hT
    · exact ch6n hi hJ hA h1 h2 _ _ _ _ _ (by decide)
    · exact chN7 hi hJ hA h2 t40 hT
    · exact ch8 hi hJ hA h1 h2 _ _ _ _ _
end CHW
end KAP
