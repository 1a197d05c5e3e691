/-! ===== isNet, number by number: made by wip/p46/gen2/mk98zs.py ===== -/
section KAP
variable {κ : kP}
section NETS
variable {xs : Nat → Int32} {nx : Nat} {i : Nat} {c : nC} {m a : nM} {q : Nat} {J : Nat → Int64}
theorem net7 (hi : i + 3 < 512) (hJ : nJ κ i c m) (hA : pA κ a) {one two : Nat} (h1 : one < 60000) (h2 : two < 70000) : lRes xs nx 8 [some (vR 0 (some 0)), some (vR 35 (some 0)), some (vR 45 (some 0)), some (vR 79 (some 0)), some (vR 29 (some 0)), some (vR 80 (some 0)), some (vI 7), some (vI (iN one)), some (vI (iN two)), none, none, none, none, none, none] i 3 c m a q J := by
  have e5 : iN one - iN one / (5 : Int32) * 5 = iN (one % 5) := mdN 5 (by omega) (by omega)
  have e12 : iN two - iN two / (12 : Int32) * 12 = iN (two % 12) := mdN 12 (by omega) (by omega)
  have st : R1 xs nx 8 0 [some (vR 0 (some 0)), some (vR 35 (some 0)), some (vR 45 (some 0)), some (vR 79 (some 0)), some (vR 29 (some 0)), some (vR 80 (some 0)), some (vI 7), some (vI (iN one)), some (vI (iN two)), none, none, none, none, none, none] [] (c, a, q, J) = _ := d_8_0 _ _ _ _
  rw [if_neg (show ¬ (7 : Int32) = 0 by decide), if_neg (show ¬ (7 : Int32) = 1 by decide), if_neg (show ¬ (7 : Int32) < 4 by decide), if_neg (show ¬ (7 : Int32) = 4 by decide), if_neg (show ¬ (7 : Int32) = 5 by decide), if_neg (show ¬ (7 : Int32) = 6 by decide), if_pos (show (7 : Int32) = 7 by decide), e5, e12] at st
  obtain ⟨κ', c', m', hJ', hd⟩ := do0 (xs := xs) (nx := nx) (a := a) (q := q) (J := J) (by omega) hJ (iN (one % 5)) (iN (two % 12)) 0 0 0 0
  rcases hd with ⟨v, ⟨p1, p2, p3, p4⟩, hr⟩ | ⟨-, ⟨f, hr⟩ | ⟨f, hr⟩ | ⟨f, hr⟩⟩
  · rw [hr, bI_Vl, nt958 _ _ _ (nIn_nn p3 (by decide))] at st
    exact ⟨κ', i + 1, c', m', a, q + 1, by omega, by omega, by omega, hJ', by rw [p2]; exact hA, p4, rfl, st⟩
  · exact absurd (isD_n (x := one % 5) (by omega)) f
  · have f : iN (two % 12) < iN 0 ∨ iN 40 < iN (two % 12) := f
    rcases f with f | f
    · exact absurd f (iN_nlt (by omega) (by omega) (by omega))
    · exact absurd f (iN_nlt (by omega) (by omega) (by omega))
  · exact (show False from f).elim
theorem net8 (hi : i + 3 < 512) (hJ : nJ κ i c m) (hA : pA κ a) {one two : Nat} (h1 : one < 60000) (h2 : two < 70000) : lRes xs nx 8 [some (vR 0 (some 0)), some (vR 35 (some 0)), some (vR 45 (some 0)), some (vR 79 (some 0)), some (vR 29 (some 0)), some (vR 80 (some 0)), some (vI 8), some (vI (iN one)), some (vI (iN two)), none, none, none, none, none, none] i 3 c m a q J := by
  have e5 : iN one - iN one / (5 : Int32) * 5 = iN (one % 5) := mdN 5 (by omega) (by omega)
  have e20 : iN two - iN two / (20 : Int32) * 20 = iN (two % 20) := mdN 20 (by omega) (by omega)
  have d20 : iN two / (20 : Int32) = iN (two / 20) := iN_div (b := 20) (by omega) (by omega)
  have e48 : iN (two / 20) - iN (two / 20) / (48 : Int32) * 48 = iN ((two / 20) % 48) := mdN 48 (by omega) (by omega)
  have s1 : (1 : Int32) + iN (two % 20) = iN (1 + two % 20) := i32_add (a := 1)
  have s2 : (1 : Int32) + iN (two / 20 % 48) = iN (1 + two / 20 % 48) := i32_add (a := 1)
  have st : R1 xs nx 8 0 [some (vR 0 (some 0)), some (vR 35 (some 0)), some (vR 45 (some 0)), some (vR 79 (some 0)), some (vR 29 (some 0)), some (vR 80 (some 0)), some (vI 8), some (vI (iN one)), some (vI (iN two)), none, none, none, none, none, none] [] (c, a, q, J) = _ := d_8_0 _ _ _ _
  rw [if_neg (show ¬ (8 : Int32) = 0 by decide), if_neg (show ¬ (8 : Int32) = 1 by decide), if_neg (show ¬ (8 : Int32) < 4 by decide), if_neg (show ¬ (8 : Int32) = 4 by decide), if_neg (show ¬ (8 : Int32) = 5 by decide), if_neg (show ¬ (8 : Int32) = 6 by decide), if_neg (show ¬ (8 : Int32) = 7 by decide), if_pos (show (8 : Int32) = 8 by decide), e5, e20, d20, e48, s1, s2] at st
  obtain ⟨κ', c', m', hJ', hd⟩ := do1 (xs := xs) (nx := nx) (a := a) (q := q) (J := J) (by omega) hJ (iN (one % 5)) (iN (1 + two % 20)) (iN (1 + two / 20 % 48)) 0 0 0
  rcases hd with ⟨v, ⟨p1, p2, p3, p4⟩, hr⟩ | ⟨-, ⟨f, hr⟩ | ⟨f, hr⟩ | ⟨f, hr⟩⟩
  · rw [hr, bI_Vl, nt958 _ _ _ (nIn_nn p3 (by decide))] at st
    exact ⟨κ', i + 1, c', m', a, q + 1, by omega, by omega, by omega, hJ', by rw [p2]; exact hA, p4, rfl, st⟩
  · exact absurd (isD_n (x := one % 5) (by omega)) f
  · have f : iN (1 + two % 20) < iN 1 ∨ iN 20 < iN (1 + two % 20) ∨ iN (1 + two / 20 % 48) < iN 1 ∨ iN 48 < iN (1 + two / 20 % 48) := f
    rcases f with f | f | f | f
    all_goals exact absurd f (iN_nlt (by omega) (by omega) (by omega))
  · exact (show False from f).elim
theorem net9 (hi : i + 3 < 512) (hJ : nJ κ i c m) (hA : pA κ a) {one two : Nat} (h1 : one < 60000) (h2 : two < 70000) : lRes xs nx 8 [some (vR 0 (some 0)), some (vR 35 (some 0)), some (vR 45 (some 0)), some (vR 79 (some 0)), some (vR 29 (some 0)), some (vR 80 (some 0)), some (vI 9), some (vI (iN one)), some (vI (iN two)), none, none, none, none, none, none] i 3 c m a q J := by
  have e5 : iN one - iN one / (5 : Int32) * 5 = iN (one % 5) := mdN 5 (by omega) (by omega)
  have e6 : iN two - iN two / (6 : Int32) * 6 = iN (two % 6) := mdN 6 (by omega) (by omega)
  have d6 : iN two / (6 : Int32) = iN (two / 6) := iN_div (b := 6) (by omega) (by omega)
  have e2 : iN (two / 6) - iN (two / 6) / (2 : Int32) * 2 = iN ((two / 6) % 2) := mdN 2 (by omega) (by omega)
  have hb : iN (two / 6 % 2) = 0 ∨ iN (two / 6 % 2) = 1 := by
    rcases Nat.mod_two_eq_zero_or_one (two / 6) with h | h
    · exact Or.inl (by rw [h]; rfl)
    · exact Or.inr (by rw [h]; rfl)
  have st : R1 xs nx 8 0 [some (vR 0 (some 0)), some (vR 35 (some 0)), some (vR 45 (some 0)), some (vR 79 (some 0)), some (vR 29 (some 0)), some (vR 80 (some 0)), some (vI 9), some (vI (iN one)), some (vI (iN two)), none, none, none, none, none, none] [] (c, a, q, J) = _ := d_8_0 _ _ _ _
  rw [if_neg (show ¬ (9 : Int32) = 0 by decide), if_neg (show ¬ (9 : Int32) = 1 by decide), if_neg (show ¬ (9 : Int32) < 4 by decide), if_neg (show ¬ (9 : Int32) = 4 by decide), if_neg (show ¬ (9 : Int32) = 5 by decide), if_neg (show ¬ (9 : Int32) = 6 by decide), if_neg (show ¬ (9 : Int32) = 7 by decide), if_neg (show ¬ (9 : Int32) = 8 by decide), e5, e6, d6, e2] at st
  obtain ⟨κ', c', m', hJ', hd⟩ := do2 (xs := xs) (nx := nx) (a := a) (q := q) (J := J) (by omega) hJ (iN (one % 5)) (iN (two % 6)) (iN (two / 6 % 2)) 0 0 0 hb
  rcases hd with ⟨v, ⟨p1, p2, p3, p4⟩, hr⟩ | ⟨-, ⟨f, hr⟩ | ⟨f, hr⟩ | ⟨f, hr⟩⟩
  · rw [hr, bI_Vl, nt958 _ _ _ (nIn_nn p3 (by decide))] at st
    exact ⟨κ', i + 1, c', m', a, q + 1, by omega, by omega, by omega, hJ', by rw [p2]; exact hA, p4, rfl, st⟩
  · exact absurd (isD_n (x := one % 5) (by omega)) f
  · have f : iN (two % 6) < iN 0 ∨ iN 20 < iN (two % 6) := f
    rcases f with f | f
    all_goals exact absurd f (iN_nlt (by omega) (by omega) (by omega))
  · exact (show False from f).elim
theorem net1 (hi : i + 3 < 512) (hJ : nJ κ i c m) (hA : pA κ a) {one two : Nat} (h1 : one < 60000) (h2 : two < 70000) : lRes xs nx 8 [some (vR 0 (some 0)), some (vR 35 (some 0)), some (vR 45 (some 0)), some (vR 79 (some 0)), some (vR 29 (some 0)), some (vR 80 (some 0)), some (vI 1), some (vI (iN one)), some (vI (iN two)), none, none, none, none, none, none] i 3 c m a q J := by
  have e13 : iN one - iN one / (13 : Int32) * 13 = iN (one % 13) := mdN 13 (by omega) (by omega)
  have e20 : iN two - iN two / (20 : Int32) * 20 = iN (two % 20) := mdN 20 (by omega) (by omega)
  have e9 : iN two - iN two / (9 : Int32) * 9 = iN (two % 9) := mdN 9 (by omega) (by omega)
  have d9 : iN two / (9 : Int32) = iN (two / 9) := iN_div (b := 9) (by omega) (by omega)
  have e8 : iN (two / 9) - iN (two / 9) / (8 : Int32) * 8 = iN ((two / 9) % 8) := mdN 8 (by omega) (by omega)
  have d72 : iN two / (72 : Int32) = iN (two / 72) := iN_div (b := 72) (by omega) (by omega)
  have e4 : iN (two / 72) - iN (two / 72) / (4 : Int32) * 4 = iN ((two / 72) % 4) := mdN 4 (by omega) (by omega)
  have d288 : iN two / (288 : Int32) = iN (two / 288) := iN_div (b := 288) (by omega) (by omega)
  have e6 : iN (two / 288) - iN (two / 288) / (6 : Int32) * 6 = iN ((two / 288) % 6) := mdN 6 (by omega) (by omega)
  have s1 : (1 : Int32) + iN (two % 20) = iN (1 + two % 20) := i32_add (a := 1)
  have s2 : (1 : Int32) + iN (two / 9 % 8) = iN (1 + two / 9 % 8) := i32_add (a := 1)
  have s3 : (1 : Int32) + iN (two / 72 % 4) = iN (1 + two / 72 % 4) := i32_add (a := 1)
  have h23 := hJ.1.1.1
  have z0 : a 80 0 = iN (fN c 23) := by rw [hA.1.1, (nJ_k hJ).1.1]
  have st : R1 xs nx 8 0 [some (vR 0 (some 0)), some (vR 35 (some 0)), some (vR 45 (some 0)), some (vR 79 (some 0)), some (vR 29 (some 0)), some (vR 80 (some 0)), some (vI 1), some (vI (iN one)), some (vI (iN two)), none, none, none, none, none, none] [] (c, a, q, J) = _ := d_8_0 _ _ _ _
  rw [if_neg (show ¬ (1 : Int32) = 0 by decide), if_pos (show (1 : Int32) = 1 by decide), e13, e20, e9, d9, e8, d72, e4, d288, e6, s1, s2, s3] at st
  obtain ⟨κ', c', m', hJ', hd⟩ := do4 (xs := xs) (nx := nx) (a := a) (q := q) (J := J) (by omega) hJ (iN (one % 13)) (iN (1 + two % 20)) (iN (two % 9)) (iN (1 + two / 9 % 8)) (iN (1 + two / 72 % 4)) (iN (two / 288 % 6))
  rcases hd with ⟨v, ⟨⟨l, l1, l2⟩, p0, p1, p2, p3, p4⟩, hr⟩ | ⟨-, ⟨f, hr⟩ | ⟨f, hr⟩ | ⟨f, hr⟩⟩
  · rw [hr, bI_Vl, if_pos i60] at st
    dsimp only at st
    simp only [t60, z0] at st
    have hl : one % 13 < fN c 23 := by
      have := (iN_inj (by omega) (by omega)).mp l2
      omega
    have hv : (100 : Int32) < v := by
      obtain ⟨n, n1, n2, n3⟩ := p3
      rw [n3]
      exact (iN_lt (a := 100) (by omega) (by omega)).mpr (by omega)
    rw [if_pos ((iN_lt (by omega) (by omega)).mpr hl), if_pos hv] at st
    have h23' : fN c' 23 = fN c 23 := by rw [← (nJ_k hJ').1.1, p2, (nJ_k hJ).1.1]
    obtain ⟨κ2, c2, m2, hJ2, hd2⟩ := do4 (xs := xs) (nx := nx) (a := a) (q := q) (J := J) (by omega) hJ' (iN (one % 13)) 21 0 1 1 1
    rcases hd2 with ⟨v2, ⟨-, -, g1, -⟩, -⟩ | ⟨-, ⟨f, hr2⟩ | ⟨f, hr2⟩ | ⟨f, hr2⟩⟩
    · exact absurd (show (20 : Int32) < 21 by decide) g1
    · exact absurd ⟨one % 13, by rw [h23']; exact hl, rfl⟩ (show ¬ ∃ k, k < fN c' 23 ∧ iN (one % 13) = iN k from f)
    · rw [hr2, bI_Vl, if_pos rfl] at st
      exact ⟨κ', i + 1, c', m', a, q + 1, by omega, by omega, by omega, hJ', by rw [p2]; exact hA, p4, rfl, st⟩
    · exact (show False from f).elim
  · have f : ¬ ∃ k, k < fN c 23 ∧ iN (one % 13) = iN k := f
    rw [hr, bI_Vl, if_pos i60] at st
    dsimp only at st
    simp only [t60, z0] at st
    rw [if_neg (fun z => f ⟨one % 13, (iN_lt (by omega) (by omega)).mp z, rfl⟩), if_true] at st
    exact ⟨κ, i, c, m, a, q + 1, by omega, by omega, by omega, hJ, hA, rfl, rfl, st⟩
  · have f : _ ∧ (iN (1 + two % 20) < iN 1 ∨ iN 20 < iN (1 + two % 20) ∨ iN (two % 9) < iN 0 ∨ iN 100 < iN (two % 9) ∨ iN (1 + two / 9 % 8) < iN 1 ∨ iN 48 < iN (1 + two / 9 % 8) ∨ iN (1 + two / 72 % 4) < iN 1 ∨ iN 20 < iN (1 + two / 72 % 4) ∨ iN (two / 288 % 6) < iN 0 ∨ iN 24 < iN (two / 288 % 6)) := f
    rcases f.2 with f | f | f | f | f | f | f | f | f | f
    all_goals exact absurd f (iN_nlt (by omega) (by omega) (by omega))
  · exact (show False from f).elim
theorem net5 (hi : i + 3 < 512) (hJ : nJ κ i c m) (hA : pA κ a) {one two : Nat} (h1 : one < 60000) (h2 : two < 70000) : lRes xs nx 8 [some (vR 0 (some 0)), some (vR 35 (some 0)), some (vR 45 (some 0)), some (vR 79 (some 0)), some (vR 29 (some 0)), some (vR 80 (some 0)), some (vI 5), some (vI (iN one)), some (vI (iN two)), none, none, none, none, none, none] i 3 c m a q J := by
  have e5 : iN one - iN one / (5 : Int32) * 5 = iN (one % 5) := mdN 5 (by omega) (by omega)
  have e30 : iN two - iN two / (30 : Int32) * 30 = iN (two % 30) := mdN 30 (by omega) (by omega)
  have d5 : iN one / (5 : Int32) = iN (one / 5) := iN_div (b := 5) (by omega) (by omega)
  have e24 : iN (one / 5) - iN (one / 5) / (24 : Int32) * 24 = iN ((one / 5) % 24) := mdN 24 (by omega) (by omega)
  have s1 : (1 : Int32) + iN (two % 30) = iN (1 + two % 30) := i32_add (a := 1)
  have h27 := hJ.1.2.2.2.1.1
  have z3 : a 80 3 = iN (fN c 27) := by rw [hA.1.2.2.2.1, (nJ_k hJ).1.2.2.2.1]
  have hp := (pA_C hJ).mp hA
  have st : R1 xs nx 8 0 [some (vR 0 (some 0)), some (vR 35 (some 0)), some (vR 45 (some 0)), some (vR 79 (some 0)), some (vR 29 (some 0)), some (vR 80 (some 0)), some (vI 5), some (vI (iN one)), some (vI (iN two)), none, none, none, none, none, none] [] (c, a, q, J) = _ := d_8_0 _ _ _ _
  rw [if_neg (show ¬ (5 : Int32) = 0 by decide), if_neg (show ¬ (5 : Int32) = 1 by decide), if_neg (show ¬ (5 : Int32) < 4 by decide), if_neg (show ¬ (5 : Int32) = 4 by decide), if_pos (show (5 : Int32) = 5 by decide), e5, e30, d5, e24, s1] at st
  have n6 : fN c 27 < 6 → ¬ iN (fN c 27) = (6 : Int32) := fun h z => by have := (iN_inj (b := 6) (by omega) (by omega)).mp z; omega
  obtain ⟨κ', c', m', hJ', hd⟩ := do12 (xs := xs) (nx := nx) (a := a) (q := q) (J := J) (by omega) hJ (iN (one % 5)) (iN (1 + two % 30)) (iN (one / 5 % 24)) 0 0 0
  rcases hd with ⟨v, ⟨d, d1, d2, -, -, -, -, d3, d4, d5', d6, p4⟩, hr⟩ | ⟨-, ⟨f, hr⟩ | ⟨f, hr⟩ | ⟨f, hr⟩⟩
  · have ed : one % 5 = d := (iN_inj (by omega) (by omega)).mp d2
    obtain ⟨w1, w2, w3, w4, w5, w6⟩ := nwV d6
    have hA' : pA κ' (uM 80 3 (a 80 3 + 1) (uM 79 (fN c 27) (iN (d + 10 * (one / 5 % 24))) a)) := by
      rw [d5']
      exact pA_v hp w1 w2 w3 w4 w5 w6 (by omega) rfl
    have ev : iN (one % 5) + (10 : Int32) * iN (one / 5 % 24) = iN (d + 10 * (one / 5 % 24)) := by
      rw [ed, show (10 : Int32) * iN (one / 5 % 24) = iN (10 * (one / 5 % 24)) from (Int32.ofNat_mul 10 _).symm]
      exact i32_add
    have hn : (iN (fN c 27)).toNatClampNeg = fN c 27 := i32_nat (by omega)
    have e1 : ∀ x : Int32, R1 xs nx 8 697 [some (vR 0 (some 0)), some (vR 35 (some 0)), some (vR 45 (some 0)), some (vR 79 (some 0)), some (vR 29 (some 0)), some (vR 80 (some 0)), some (vI 5), some (vI (iN one)), some (vI (iN two)), some (vI x), none, none, none, none, none] [vI (iN (fN c 27))] (c', a, q, J) = R1 xs nx 8 731 [some (vR 0 (some 0)), some (vR 35 (some 0)), some (vR 45 (some 0)), some (vR 79 (some 0)), some (vR 29 (some 0)), some (vR 80 (some 0)), some (vI 5), some (vI (iN one)), some (vI (iN two)), some (vI x), some (vI (iN (fN c 27))), none, none, none, none] [] (c', uM 80 3 (a 80 3 + 1) (uM 79 (fN c 27) (iN (d + 10 * (one / 5 % 24))) a), q, J) := by
      intro x
      rw [d_8_697, if_neg (iN_pos (by omega)), if_pos (iN_in d3 (by decide)), if_pos i63, if_pos i63, e5, d5, e24, ev]
      dsimp only
      rw [hn, t63]
    rw [hr, bI_Vl, if_pos i63] at st
    dsimp only at st
    simp only [t63, z3] at st
    rw [if_neg (n6 d3), if_pos i63, e1, d_8_731, if_pos d4] at st
    refine ⟨κ', i + 1, c', m', _, q, by omega, by omega, by omega, hJ', hA', p4, ?_, st⟩
    rw [uM_k (by decide), uM_ne (by decide)]
  · exact absurd (isD_n (x := one % 5) (by omega)) f
  · have f : iN (1 + two % 30) < iN 1 ∨ iN 30 < iN (1 + two % 30) ∨ iN (one / 5 % 24) < iN 0 ∨ iN 23 < iN (one / 5 % 24) := f
    rcases f with f | f | f | f
    all_goals exact absurd f (iN_nlt (by omega) (by omega) (by omega))
  · have f : fN c 27 = 6 := f
    rw [hr, bI_Vl, if_pos i63] at st
    dsimp only at st
    simp only [t63, z3] at st
    rw [if_pos (show iN (fN c 27) = (6 : Int32) by rw [f]; rfl), d_8_697, if_pos (by decide), d_8_731, if_pos rfl] at st
    exact ⟨κ, i, c, m, a, q + 1, by omega, by omega, by omega, hJ, hA, rfl, rfl, st⟩
theorem net6 (hi : i + 3 < 512) (hJ : nJ κ i c m) (hA : pA κ a) {one two : Nat} (h1 : one < 60000) (h2 : two < 70000) : lRes xs nx 8 [some (vR 0 (some 0)), some (vR 35 (some 0)), some (vR 45 (some 0)), some (vR 79 (some 0)), some (vR 29 (some 0)), some (vR 80 (some 0)), some (vI 6), some (vI (iN one)), some (vI (iN two)), none, none, none, none, none, none] i 3 c m a q J := by
  have e5 : iN one - iN one / (5 : Int32) * 5 = iN (one % 5) := mdN 5 (by omega) (by omega)
  have e6 : iN two - iN two / (6 : Int32) * 6 = iN (two % 6) := mdN 6 (by omega) (by omega)
  have d6 : iN two / (6 : Int32) = iN (two / 6) := iN_div (b := 6) (by omega) (by omega)
  have f6 : iN (two / 6) - iN (two / 6) / (6 : Int32) * 6 = iN ((two / 6) % 6) := mdN 6 (by omega) (by omega)
  have d36 : iN two / (36 : Int32) = iN (two / 36) := iN_div (b := 36) (by omega) (by omega)
  have g6 : iN (two / 36) - iN (two / 36) / (6 : Int32) * 6 = iN ((two / 36) % 6) := mdN 6 (by omega) (by omega)
  have h28 := hJ.1.2.2.2.2.1.1
  have z4 : a 80 4 = iN (fN c 28) := by rw [hA.1.2.2.2.2, (nJ_k hJ).1.2.2.2.2]
  have hp := (pA_C hJ).mp hA
  have st : R1 xs nx 8 0 [some (vR 0 (some 0)), some (vR 35 (some 0)), some (vR 45 (some 0)), some (vR 79 (some 0)), some (vR 29 (some 0)), some (vR 80 (some 0)), some (vI 6), some (vI (iN one)), some (vI (iN two)), none, none, none, none, none, none] [] (c, a, q, J) = _ := d_8_0 _ _ _ _
  rw [if_neg (show ¬ (6 : Int32) = 0 by decide), if_neg (show ¬ (6 : Int32) = 1 by decide), if_neg (show ¬ (6 : Int32) < 4 by decide), if_neg (show ¬ (6 : Int32) = 4 by decide), if_neg (show ¬ (6 : Int32) = 5 by decide), if_pos (show (6 : Int32) = 6 by decide), e5, e6, d6, f6, d36, g6] at st
  have n5 : fN c 28 < 5 → ¬ iN (fN c 28) = (5 : Int32) := fun h z => by have := (iN_inj (b := 5) (by omega) (by omega)).mp z; omega
  obtain ⟨κ', c', m', hJ', hd⟩ := do13 (xs := xs) (nx := nx) (a := a) (q := q) (J := J) (by omega) hJ (iN (one % 5)) (iN (two % 6)) (iN (two / 6 % 6)) (iN (two / 36 % 6)) 0 0
  rcases hd with ⟨v, ⟨d, d1, d2, d3, d4, d5', d6', p4⟩, hr⟩ | ⟨-, ⟨f, hr⟩ | ⟨f, hr⟩ | ⟨f, hr⟩⟩
  · have ed : one % 5 = d := (iN_inj (by omega) (by omega)).mp d2
    obtain ⟨w1, w2, w3, w5, w6⟩ := nwK d6'
    have esum : iN (two % 6) + iN (two / 6 % 6) + iN (two / 36 % 6) = iN (two % 6 + two / 6 % 6 + two / 36 % 6) := by
      rw [show iN (two % 6) + iN (two / 6 % 6) = iN (two % 6 + two / 6 % 6) from i32_add]
      exact i32_add
    have hA' : pA κ' (uM 80 4 (a 80 4 + 1) (uM 29 (fN c 28) (iN (d + 10 * (two % 6 + two / 6 % 6 + two / 36 % 6))) a)) := by
      rw [d5']
      exact pA_k hp w1 w2 w3 w5 w6 (by omega) esum
    have ev : iN (one % 5) + (10 : Int32) * (iN (two % 6) + iN (two / 6 % 6) + iN (two / 36 % 6)) = iN (d + 10 * (two % 6 + two / 6 % 6 + two / 36 % 6)) := by
      rw [ed, esum, show (10 : Int32) * iN (two % 6 + two / 6 % 6 + two / 36 % 6) = iN (10 * (two % 6 + two / 6 % 6 + two / 36 % 6)) from (Int32.ofNat_mul 10 _).symm]
      exact i32_add
    have hn : (iN (fN c 28)).toNatClampNeg = fN c 28 := i32_nat (by omega)
    have e1 : ∀ x : Int32, R1 xs nx 8 803 [some (vR 0 (some 0)), some (vR 35 (some 0)), some (vR 45 (some 0)), some (vR 79 (some 0)), some (vR 29 (some 0)), some (vR 80 (some 0)), some (vI 6), some (vI (iN one)), some (vI (iN two)), some (vI x), none, none, none, none, none] [vI (iN (fN c 28))] (c', a, q, J) = R1 xs nx 8 854 [some (vR 0 (some 0)), some (vR 35 (some 0)), some (vR 45 (some 0)), some (vR 79 (some 0)), some (vR 29 (some 0)), some (vR 80 (some 0)), some (vI 6), some (vI (iN one)), some (vI (iN two)), some (vI x), some (vI (iN (fN c 28))), none, none, none, none] [] (c', uM 80 4 (a 80 4 + 1) (uM 29 (fN c 28) (iN (d + 10 * (two % 6 + two / 6 % 6 + two / 36 % 6))) a), q, J) := by
      intro x
      rw [d_8_803, if_neg (iN_pos (by omega)), if_pos (iN_in d3 (by decide)), if_pos i64, if_pos i64, e5, e6, d6, f6, d36, g6, ev]
      dsimp only
      rw [hn, t64]
    rw [hr, bI_Vl, if_pos i64] at st
    dsimp only at st
    simp only [t64, z4] at st
    rw [if_neg (n5 d3), if_pos i64, e1, d_8_854, if_pos d4] at st
    refine ⟨κ', i + 1, c', m', _, q, by omega, by omega, by omega, hJ', hA', p4, ?_, st⟩
    rw [uM_k (by decide), uM_ne (by decide)]
  · exact absurd (isD_n (x := one % 5) (by omega)) f
  · have f : iN (two % 6) < iN 0 ∨ iN 5 < iN (two % 6) ∨ iN (two / 6 % 6) < iN 0 ∨ iN 5 < iN (two / 6 % 6) ∨ iN (two / 36 % 6) < iN 0 ∨ iN 5 < iN (two / 36 % 6) := f
    rcases f with f | f | f | f | f | f
    all_goals exact absurd f (iN_nlt (by omega) (by omega) (by omega))
  · have f : fN c 28 = 5 := f
    rw [hr, bI_Vl, if_pos i64] at st
    dsimp only at st
    simp only [t64, z4] at st
    rw [if_pos (show iN (fN c 28) = (5 : Int32) by rw [f]; rfl), d_8_803, if_pos (by decide), d_8_854, if_pos rfl] at st
    exact ⟨κ, i, c, m, a, q + 1, by omega, by omega, by omega, hJ, hA, rfl, rfl, st⟩
/-- what is left of a part of the law comes to -/
def lRes2 (xs : Nat → Int32) (nx : Nat) (r : Option nOut) (i : Nat) (c : nC) (m a : nM) (q : Nat) (J : Nat → Int64) : Prop := ∃ (κ' : kP) (i' : Nat) (c' : nC) (m' : nM) (q' : Nat), i ≤ i' ∧ i' ≤ i + 1 ∧ q' ≤ q + 1 ∧ nJ κ' i' c' m' ∧ pA κ' a ∧ m' 1 0 = m 1 0 ∧ r = nVl 1 c' (a, q', J)
/-- people go away -/
theorem nt570 {κ : kP} {i : Nat} {c : nC} {m a : nM} {q : Nat} (hi : i + 1 < 512) (hJ : nJ κ i c m) (hA : pA κ a) {one two : Nat} (h1 : one < 60000) (h2 : two < 70000) (x9 x : Int32) : lRes2 xs nx (R1 xs nx 8 570 [some (vR 0 (some 0)), some (vR 35 (some 0)), some (vR 45 (some 0)), some (vR 79 (some 0)), some (vR 29 (some 0)), some (vR 80 (some 0)), some (vI 4), some (vI (iN one)), some (vI (iN two)), some (vI x9), some (vI x), some (vI x), none, none, none] [] (c, a, q, J)) i c m a q J := by
  have h24 := hJ.1.2.1.1
  have z1 : a 80 1 = iN (fN c 24) := by rw [hA.1.2.1, (nJ_k hJ).1.2.1]
  have e24 : iN one - iN one / (24 : Int32) * 24 = iN (one % 24) := mdN 24 (by omega) (by omega)
  have e3 : iN two - iN two / (3 : Int32) * 3 = iN (two % 3) := mdN 3 (by omega) (by omega)
  have st : R1 xs nx 8 570 [some (vR 0 (some 0)), some (vR 35 (some 0)), some (vR 45 (some 0)), some (vR 79 (some 0)), some (vR 29 (some 0)), some (vR 80 (some 0)), some (vI 4), some (vI (iN one)), some (vI (iN two)), some (vI x9), some (vI x), some (vI x), none, none, none] [] (c, a, q, J) = _ := d_8_570 _ _ _ _ _ _ _
  rw [if_pos rfl, if_pos i61, e24, e3] at st
  dsimp only at st
  simp only [t61, z1] at st
  by_cases h0 : fN c 24 = 0
  · rw [if_pos (show iN (fN c 24) = 0 by rw [h0]; rfl)] at st
    exact ⟨κ, i, c, m, q, by omega, by omega, by omega, hJ, hA, rfl, st⟩
  · have hz : ¬ iN (fN c 24) = 0 := fun z => h0 ((iN_inj (b := 0) (by omega) (by omega)).mp z)
    have em : iN two - iN two / iN (fN c 24) * iN (fN c 24) = iN (two % fN c 24) := mdN (fN c 24) (by omega) (by omega)
    have hm := Nat.mod_lt two (show 0 < fN c 24 by omega)
    have es : iN (one % 24) + iN (two % 3) = iN (one % 24 + two % 3) := i32_add
    rw [if_neg hz, if_pos i61, if_neg hz, em, es] at st
    obtain ⟨T, hT1, hT2, hT3, hT⟩ : ∃ T, one % 24 ≤ T ∧ T ≤ 24 ∧ T ≤ one % 24 + 2 ∧ R1 xs nx 8 570 [some (vR 0 (some 0)), some (vR 35 (some 0)), some (vR 45 (some 0)), some (vR 79 (some 0)), some (vR 29 (some 0)), some (vR 80 (some 0)), some (vI 4), some (vI (iN one)), some (vI (iN two)), some (vI x9), some (vI x), some (vI x), none, none, none] [] (c, a, q, J) = R1 xs nx 8 627 [some (vR 0 (some 0)), some (vR 35 (some 0)), some (vR 45 (some 0)), some (vR 79 (some 0)), some (vR 29 (some 0)), some (vR 80 (some 0)), some (vI 4), some (vI (iN one)), some (vI (iN two)), some (vI x9), some (vI x), some (vI x), some (vI (iN (one % 24))), none, none] [vI (iN T), vI (iN (one % 24)), vI (iN (two % fN c 24)), vI 7, vR 0 (some 0)] (c, a, q, J) := by
      by_cases h25 : one % 24 + two % 3 < 25
      · rw [if_pos (show iN (one % 24 + two % 3) < (25 : Int32) from (iN_lt (b := 25) (by omega) (by omega)).mpr h25)] at st
        exact ⟨one % 24 + two % 3, by omega, by omega, by omega, st⟩
      · rw [if_neg (show ¬ iN (one % 24 + two % 3) < (25 : Int32) from iN_nlt (b := 25) (by omega) (by omega) (by omega))] at st
        exact ⟨24, by omega, by omega, by omega, st⟩
    rw [d_8_627] at hT
    obtain ⟨κ', c', m', hJ', hd⟩ := do7 (xs := xs) (nx := nx) (a := a) (q := q) (J := J) (by omega) hJ (iN (two % fN c 24)) (iN (one % 24)) (iN T) 0 0 0
    rcases hd with ⟨v, ⟨-, -, -, -, -, p2, p3, p4⟩, hr⟩ | ⟨-, ⟨f, hr⟩ | ⟨f, hr⟩ | ⟨f, hr⟩⟩
    · have ev : v = iN (24 - (T - one % 24)) := by
        rw [p3, show iN T - iN (one % 24) = iN (T - one % 24) from i32_sub (by omega) (by omega)]
        exact i32_sub (a := 24) (by omega) (by omega)
      rw [hr, bI_Vl, if_neg (show ¬ v < (21 : Int32) by rw [ev]; exact iN_nlt (b := 21) (by omega) (by omega) (by omega))] at hT
      exact ⟨κ', i + 1, c', m', q, by omega, by omega, by omega, hJ', by rw [p2]; exact hA, p4, hT⟩
    · exact absurd ⟨two % fN c 24, hm, rfl⟩ (show ¬ ∃ k, k < fN c 24 ∧ iN (two % fN c 24) = iN k from f)
    · have f : iN (one % 24) < iN 0 ∨ iN 24 < iN (one % 24) ∨ iN T < iN (one % 24) ∨ iN 24 < iN T := f
      rcases f with f | f | f | f
      all_goals exact absurd f (iN_nlt (by omega) (by omega) (by omega))
    · exact (show False from f).elim
theorem net4 (hi : i + 3 < 512) (hJ : nJ κ i c m) (hA : pA κ a) {one two : Nat} (h1 : one < 60000) (h2 : two < 70000) : lRes xs nx 8 [some (vR 0 (some 0)), some (vR 35 (some 0)), some (vR 45 (some 0)), some (vR 79 (some 0)), some (vR 29 (some 0)), some (vR 80 (some 0)), some (vI 4), some (vI (iN one)), some (vI (iN two)), none, none, none, none, none, none] i 3 c m a q J := by
  have e5 : iN one - iN one / (5 : Int32) * 5 = iN (one % 5) := mdN 5 (by omega) (by omega)
  have e62 : iN two - iN two / (62 : Int32) * 62 = iN (two % 62) := mdN 62 (by omega) (by omega)
  have h24 := hJ.1.2.1.1
  have z1 : a 80 1 = iN (fN c 24) := by rw [hA.1.2.1, (nJ_k hJ).1.2.1]
  have hp := (pA_C hJ).mp hA
  have st : R1 xs nx 8 0 [some (vR 0 (some 0)), some (vR 35 (some 0)), some (vR 45 (some 0)), some (vR 79 (some 0)), some (vR 29 (some 0)), some (vR 80 (some 0)), some (vI 4), some (vI (iN one)), some (vI (iN two)), none, none, none, none, none, none] [] (c, a, q, J) = _ := d_8_0 _ _ _ _
  rw [if_neg (show ¬ (4 : Int32) = 0 by decide), if_neg (show ¬ (4 : Int32) = 1 by decide), if_neg (show ¬ (4 : Int32) < 4 by decide), if_pos (show (4 : Int32) = 4 by decide), e5, e62] at st
  obtain ⟨κ', c', m', hJ', hd⟩ := do6 (xs := xs) (nx := nx) (a := a) (q := q) (J := J) (by omega) hJ (iN (one % 5)) (iN (two % 62)) 0 0 0 0
  have n61 : two % 62 ≠ 61 → ¬ iN (two % 62) = (61 : Int32) := fun h z => h ((iN_inj (b := 61) (by omega) (by omega)).mp z)
  have n20 : fN c 24 < 20 → ¬ iN (fN c 24) = (20 : Int32) := fun h z => by have := (iN_inj (b := 20) (by omega) (by omega)).mp z; omega
  rcases hd with ⟨v, ⟨d, d1, d2, -, d3, d4, d5, d6, d7, p4⟩, hr⟩ | ⟨-, ⟨f, hr⟩ | ⟨f, hr⟩ | ⟨f, hr⟩⟩
  · have ed : one % 5 = d := (iN_inj (by omega) (by omega)).mp d2
    have h60 : two % 62 ≤ 60 := by
      rcases Nat.lt_or_ge 60 (two % 62) with z | z
      · exact absurd ((iN_lt (a := 60) (by omega) (by omega)).mpr z) d3
      · exact z
    obtain ⟨w1, w2, w3, w5, w6⟩ := nwA d7
    have hA' : pA κ' (uM 80 1 (a 80 1 + 1) (uM 45 (fN c 24) (iN d) a)) := by
      rw [d6]
      exact pA_a hp w1 w2 w3 w5 w6
    have hn : (iN (fN c 24)).toNatClampNeg = fN c 24 := i32_nat (by omega)
    rw [hr, bI_Vl, if_neg (n61 (by omega)), if_pos i61] at st
    dsimp only at st
    simp only [t61, z1] at st
    rw [if_neg (n20 d4), if_pos i61, d_8_549, if_neg (iN_pos (by omega)), if_pos (iN_in d4 (by decide)), if_pos i61, if_pos i61] at st
    dsimp only at st
    rw [hn, t61, d5, ed] at st
    obtain ⟨κ2, i2, c2, m2, q2, b1, b2, b3, b4, b5, b6, b7⟩ := nt570 (xs := xs) (nx := nx) (q := q) (J := J) (by omega) hJ' hA' h1 h2 (iN d) (iN (fN c 24))
    refine ⟨κ2, i2, c2, m2, _, q2, by omega, by omega, by omega, b4, b5, b6.trans p4, ?_, st.trans b7⟩
    rw [uM_k (by decide), uM_ne (by decide)]
  · exact absurd (isD_n (x := one % 5) (by omega)) f
  · have f : iN (two % 62) < iN 0 ∨ iN 60 < iN (two % 62) := f
    have h61 : two % 62 = 61 := by
      rcases f with f | f
      · exact absurd f (iN_nlt (by omega) (by omega) (by omega))
      · have := (iN_lt (by omega) (by omega)).mp f
        omega
    rw [hr, bI_Vl, if_pos (show iN (two % 62) = (61 : Int32) by rw [h61]; rfl), d_8_549, if_pos (by decide)] at st
    obtain ⟨κ2, i2, c2, m2, q2, b1, b2, b3, b4, b5, b6, b7⟩ := nt570 (xs := xs) (nx := nx) (q := q + 1) (J := J) (by omega) hJ hA h1 h2 (iN (one % 5)) (-2000000)
    exact ⟨κ2, i2, c2, m2, a, q2, by omega, by omega, by omega, b4, b5, b6, rfl, st.trans b7⟩
  · obtain ⟨f1, f2⟩ : fN c 24 = 20 ∧ ¬ (60 : Int32) < iN (two % 62) := f
    have h60 : two % 62 ≤ 60 := by
      rcases Nat.lt_or_ge 60 (two % 62) with z | z
      · exact absurd ((iN_lt (a := 60) (by omega) (by omega)).mpr z) f2
      · exact z
    rw [hr, bI_Vl, if_neg (n61 (by omega)), if_pos i61] at st
    dsimp only at st
    simp only [t61, z1] at st
    rw [if_pos (show iN (fN c 24) = (20 : Int32) by rw [f1]; rfl), d_8_549, if_pos (by decide)] at st
    obtain ⟨κ2, i2, c2, m2, q2, b1, b2, b3, b4, b5, b6, b7⟩ := nt570 (xs := xs) (nx := nx) (q := q + 1) (J := J) (by omega) hJ hA h1 h2 (iN (one % 5)) (-1000000)
    exact ⟨κ2, i2, c2, m2, a, q2, by omega, by omega, by omega, b4, b5, b6, rfl, st.trans b7⟩
theorem net0 (hi : i + 3 < 512) (hJ : nJ κ i c m) (hA : pA κ a) {one two : Nat} (h1 : one < 60000) (h2 : two < 70000) : lRes xs nx 8 [some (vR 0 (some 0)), some (vR 35 (some 0)), some (vR 45 (some 0)), some (vR 79 (some 0)), some (vR 29 (some 0)), some (vR 80 (some 0)), some (vI 0), some (vI (iN one)), some (vI (iN two)), none, none, none, none, none, none] i 3 c m a q J := by
  have e6 : iN one - iN one / (6 : Int32) * 6 = iN (one % 6) := mdN 6 (by omega) (by omega)
  have d6 : iN one / (6 : Int32) = iN (one / 6) := iN_div (b := 6) (by omega) (by omega)
  have e5 : iN (one / 6) - iN (one / 6) / (5 : Int32) * 5 = iN ((one / 6) % 5) := mdN 5 (by omega) (by omega)
  have e20 : iN two - iN two / (20 : Int32) * 20 = iN (two % 20) := mdN 20 (by omega) (by omega)
  have e9 : iN two - iN two / (9 : Int32) * 9 = iN (two % 9) := mdN 9 (by omega) (by omega)
  have e3 : iN two - iN two / (3 : Int32) * 3 = iN (two % 3) := mdN 3 (by omega) (by omega)
  have h23 := hJ.1.1.1
  have z0 : a 80 0 = iN (fN c 23) := by rw [hA.1.1, (nJ_k hJ).1.1]
  have hp := (pA_C hJ).mp hA
  have s1 : (1 : Int32) + iN (two % 9) = iN (1 + two % 9) := i32_add (a := 1)
  obtain ⟨H, hH0, hH1, st⟩ : ∃ H, 1 ≤ H ∧ H ≤ 25 ∧ R1 xs nx 8 0 [some (vR 0 (some 0)), some (vR 35 (some 0)), some (vR 45 (some 0)), some (vR 79 (some 0)), some (vR 29 (some 0)), some (vR 80 (some 0)), some (vI 0), some (vI (iN one)), some (vI (iN two)), none, none, none, none, none, none] [] (c, a, q, J) = R1 xs nx 8 41 [some (vR 0 (some 0)), some (vR 35 (some 0)), some (vR 45 (some 0)), some (vR 79 (some 0)), some (vR 29 (some 0)), some (vR 80 (some 0)), some (vI 0), some (vI (iN one)), some (vI (iN two)), some (vI (iN (one % 6))), some (vI (iN (one / 6 % 5))), none, none, none, none] [vI (iN H)] (c, a, q, J) := by
    have st : R1 xs nx 8 0 [some (vR 0 (some 0)), some (vR 35 (some 0)), some (vR 45 (some 0)), some (vR 79 (some 0)), some (vR 29 (some 0)), some (vR 80 (some 0)), some (vI 0), some (vI (iN one)), some (vI (iN two)), none, none, none, none, none, none] [] (c, a, q, J) = _ := d_8_0 _ _ _ _
    rw [if_pos (show (0 : Int32) = 0 by decide), e6, d6, e5, e20, e9, s1] at st
    by_cases h : two % 20 = 0
    · rw [if_pos (show iN (two % 20) = 0 by rw [h]; rfl)] at st
      exact ⟨25, by omega, by omega, st⟩
    · rw [if_neg (show ¬ iN (two % 20) = (0 : Int32) from fun z => h ((iN_inj (b := 0) (by omega) (by omega)).mp z))] at st
      exact ⟨1 + two % 9, by omega, by omega, st⟩
  obtain ⟨X, hX, hX3, st2⟩ : ∃ X, X ≤ 1 ∧ (X = if two % 3 = 0 then 1 else 0) ∧ R1 xs nx 8 41 [some (vR 0 (some 0)), some (vR 35 (some 0)), some (vR 45 (some 0)), some (vR 79 (some 0)), some (vR 29 (some 0)), some (vR 80 (some 0)), some (vI 0), some (vI (iN one)), some (vI (iN two)), some (vI (iN (one % 6))), some (vI (iN (one / 6 % 5))), none, none, none, none] [vI (iN H)] (c, a, q, J) = R1 xs nx 8 63 [some (vR 0 (some 0)), some (vR 35 (some 0)), some (vR 45 (some 0)), some (vR 79 (some 0)), some (vR 29 (some 0)), some (vR 80 (some 0)), some (vI 0), some (vI (iN one)), some (vI (iN two)), some (vI (iN (one % 6))), some (vI (iN (one / 6 % 5))), some (vI (iN H)), none, none, none] [vI (iN X), vI (iN H), vI (iN (one / 6 % 5)), vI (iN (one % 6)), vI 3, vR 0 (some 0)] (c, a, q, J) := by
    rw [d_8_41, e3]
    by_cases h : two % 3 = 0
    · rw [if_pos (show iN (two % 3) = 0 by rw [h]; rfl)]
      exact ⟨1, by omega, by rw [if_pos h], rfl⟩
    · rw [if_neg (show ¬ iN (two % 3) = (0 : Int32) from fun z => h ((iN_inj (b := 0) (by omega) (by omega)).mp z))]
      exact ⟨0, by omega, by rw [if_neg h], rfl⟩
  have hb : iN X = 0 ∨ iN X = 1 := by
    rcases Nat.lt_or_ge X 1 with h | h
    · exact Or.inl (by rw [show X = 0 by omega]; rfl)
    · exact Or.inr (by rw [show X = 1 by omega]; rfl)
  rw [st2, d_8_63] at st
  have n5 : one % 6 < 5 → ¬ iN (one % 6) = (5 : Int32) := fun h z => by have := (iN_inj (b := 5) (by omega) (by omega)).mp z; omega
  have nAB : one % 6 ≠ one / 6 % 5 → ¬ iN (one % 6) = iN (one / 6 % 5) := fun h z => h ((iN_inj (by omega) (by omega)).mp z)
  have n12 : fN c 23 < 12 → ¬ iN (fN c 23) = (12 : Int32) := fun h z => by have := (iN_inj (b := 12) (by omega) (by omega)).mp z; omega
  have no24 : ¬ (24 : Int32) < iN H → H ≤ 24 := fun h => by
    rcases Nat.lt_or_ge 24 H with z | z
    · exact absurd ((iN_lt (a := 24) (by omega) (by omega)).mpr z) h
    · exact z
  have lo5 : (∃ d, d < 5 ∧ iN (one % 6) = iN d) → one % 6 < 5 := fun ⟨d, hd, e⟩ => by
    have := (iN_inj (by omega) (by omega)).mp e
    omega
  obtain ⟨κ', c', m', hJ', hd⟩ := do3 (xs := xs) (nx := nx) (a := a) (q := q) (J := J) (by omega) hJ (iN (one % 6)) (iN (one / 6 % 5)) (iN H) (iN X) 0 0 hb
  rcases hd with ⟨v, ⟨d, t, d1, d2, d3, d4, d5, -, d6', d7, d8, d9, d10, p4⟩, hr⟩ | ⟨-, ⟨f, hr⟩ | ⟨f, hr⟩ | ⟨f, hr⟩⟩
  · have ed : one % 6 = d := (iN_inj (by omega) (by omega)).mp d3
    have et : one / 6 % 5 = t := (iN_inj (by omega) (by omega)).mp d4
    have hH24 := no24 d6'
    obtain ⟨w1, w2, w3, w4, w5, w6, w7⟩ := nwL d10
    have hA' : pA κ' (uM 80 0 (a 80 0 + 1) (uM 35 (fN c 23) (iN (wN d t H X)) a)) := by
      rw [d9]
      exact pA_l hp d7 w1 w2 w3 w4 w5 w6 w7 hH24 hX rfl
    have ew : ∀ y : Nat, (iN d + (10 : Int32) * iN t) + (100 : Int32) * iN H + iN y = iN (d + 10 * t + 100 * H + y) := fun y => by
      rw [show (10 : Int32) * iN t = iN (10 * t) from (Int32.ofNat_mul 10 _).symm, show (100 : Int32) * iN H = iN (100 * H) from (Int32.ofNat_mul 100 _).symm, show iN d + iN (10 * t) = iN (d + 10 * t) from i32_add, show iN (d + 10 * t) + iN (100 * H) = iN (d + 10 * t + 100 * H) from i32_add]
      exact i32_add
    have hn : (iN (fN c 23)).toNatClampNeg = fN c 23 := i32_nat (by omega)
    rw [hr, bI_Vl, if_neg (n5 (by omega)), if_neg (nAB (by omega)), if_neg d6', if_pos i60] at st
    dsimp only at st
    simp only [t60, z0] at st
    rw [if_neg (n12 d7), if_pos i60, d_8_118, if_neg (iN_pos (by omega)), e3, ed, et] at st
    have fin : ∀ y : Nat, (y = 10000 * X) → R1 xs nx 8 156 [some (vR 0 (some 0)), some (vR 35 (some 0)), some (vR 45 (some 0)), some (vR 79 (some 0)), some (vR 29 (some 0)), some (vR 80 (some 0)), some (vI 0), some (vI (iN one)), some (vI (iN two)), some (vI (iN d)), some (vI (iN t)), some (vI (iN H)), some (vI v), some (vI (iN (fN c 23))), none] [vI (iN y), vI (iN d + (10 : Int32) * iN t + (100 : Int32) * iN H), vI (iN (fN c 23)), vR 35 (some 0)] (c', a, q, J) = nVl 1 c' (uM 80 0 (a 80 0 + 1) (uM 35 (fN c 23) (iN (wN d t H X)) a), q, J) := by
      intro y hy
      rw [d_8_156, if_pos (iN_in d7 (by decide)), if_pos i60, if_pos i60, ew]
      dsimp only
      rw [hn, t60, hy, d_8_166, if_pos d8]
      rfl
    have hfin : R1 xs nx 8 0 [some (vR 0 (some 0)), some (vR 35 (some 0)), some (vR 45 (some 0)), some (vR 79 (some 0)), some (vR 29 (some 0)), some (vR 80 (some 0)), some (vI 0), some (vI (iN one)), some (vI (iN two)), none, none, none, none, none, none] [] (c, a, q, J) = nVl 1 c' (uM 80 0 (a 80 0 + 1) (uM 35 (fN c 23) (iN (wN d t H X)) a), q, J) := by
      by_cases h : two % 3 = 0
      · rw [if_pos (show iN (two % 3) = 0 by rw [h]; rfl)] at st
        rw [st]
        exact fin 10000 (by rw [hX3, if_pos h])
      · rw [if_neg (show ¬ iN (two % 3) = (0 : Int32) from fun z => h ((iN_inj (b := 0) (by omega) (by omega)).mp z))] at st
        rw [st]
        exact fin 0 (by rw [hX3, if_neg h])
    refine ⟨κ', i + 1, c', m', _, q, by omega, by omega, by omega, hJ', hA', p4, ?_, hfin⟩
    rw [uM_k (by decide), uM_ne (by decide)]
  · have f : (¬ ∃ d, d < 5 ∧ iN (one % 6) = iN d) ∨ ¬ ∃ d, d < 5 ∧ iN (one / 6 % 5) = iN d := f
    have h5 : one % 6 = 5 := by
      rcases f with f | f
      · rcases Nat.lt_or_ge (one % 6) 5 with z | z
        · exact absurd (isD_n z) f
        · omega
      · exact absurd (isD_n (x := one / 6 % 5) (by omega)) f
    rw [hr, bI_Vl, if_pos (show iN (one % 6) = (5 : Int32) by rw [h5]; rfl), d_8_118, if_pos (by decide), d_8_166, if_pos rfl] at st
    exact ⟨κ, i, c, m, a, q + 1, by omega, by omega, by omega, hJ, hA, rfl, rfl, st⟩
  · obtain ⟨f1, f2⟩ : (∃ d, d < 5 ∧ iN (one % 6) = iN d) ∧ (iN (one % 6) = iN (one / 6 % 5) ∨ iN H < 1 ∨ 24 < iN H) := f
    have fin : R1 xs nx 8 0 [some (vR 0 (some 0)), some (vR 35 (some 0)), some (vR 45 (some 0)), some (vR 79 (some 0)), some (vR 29 (some 0)), some (vR 80 (some 0)), some (vI 0), some (vI (iN one)), some (vI (iN two)), none, none, none, none, none, none] [] (c, a, q, J) = nVl 1 c (a, q + 1, J) := by
      rw [hr, bI_Vl, if_neg (n5 (lo5 f1))] at st
      by_cases hab : iN (one % 6) = iN (one / 6 % 5)
      · rw [if_pos hab, d_8_95, d_8_118, if_pos (by decide), d_8_166, if_pos rfl] at st
        exact st
      · have h24 : (24 : Int32) < iN H := by
          rcases f2 with z | z | z
          · exact absurd z hab
          · exact absurd z (iN_nlt (b := 1) (by omega) (by omega) (by omega))
          · exact z
        rw [if_neg hab, if_pos h24, d_8_95, d_8_118, if_pos (by decide), d_8_166, if_pos rfl] at st
        exact st
    exact ⟨κ, i, c, m, a, q + 1, by omega, by omega, by omega, hJ, hA, rfl, rfl, fin⟩
  · obtain ⟨f1, f2, f3, f4⟩ : (∃ d, d < 5 ∧ iN (one % 6) = iN d) ∧ iN (one % 6) ≠ iN (one / 6 % 5) ∧ ¬ 24 < iN H ∧ fN c 23 = 12 := f
    rw [hr, bI_Vl, if_neg (n5 (lo5 f1)), if_neg f2, if_neg f3, if_pos i60] at st
    dsimp only at st
    simp only [t60, z0] at st
    rw [if_pos (show iN (fN c 23) = (12 : Int32) by rw [f4]; rfl), d_8_118, if_pos (by decide), d_8_166, if_pos rfl] at st
    exact ⟨κ, i, c, m, a, q + 1, by omega, by omega, by omega, hJ, hA, rfl, rfl, st⟩
end NETS
end KAP
