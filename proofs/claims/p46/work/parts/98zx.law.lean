/-! ===== the law: made by wip/p46/gen2/mk98zx.py ===== -/
section KAP
variable {κ κ' : kP}
section LAW
variable {xs : Nat → Int32} {nx : Nat} {i : Nat} {c : nC} {m a : nM} {q : Nat} {J : Nat → Int64}
theorem han7 (hJ : nJ κ i c m) : nCnt (fN c 26) (fun k => decide (m 66 k = iN 7)) = κ.1 := by
  rw [← nJ_han hJ]
  unfold nCnt nHan
  rw [List.range_eq_range'] <;> rfl
theorem q147h (hJ : nJ κ i c m) (w : nM × Nat × (Nat → Int64)) : R1 xs nx 147 0 [some (vR 0 (some 0)), some (vI 7), none, none] [] (c, w) = nVl (iN κ.1) c w := by
  have h := q147 (xs := xs) (nx := nx) w hJ (show 7 ≤ 8 by decide)
  rw [han7 hJ] at h
  exact h
theorem han40 (hJ : nJ κ i c m) : κ.1 ≤ 40 := by
  rw [← nJ_han hJ]
  have h26 := hJ.1.2.2.1.1
  have := List.length_filter_le (fun k => decide (m 66 k = 7)) (List.range (fN c 26))
  rw [List.length_range] at this
  exact Nat.le_trans this h26
theorem uM80 {j : Nat} {x : Int32} (h : j ≠ 5) : uM 80 5 x a 80 j = a 80 j := by rw [uM_at, if_neg h]
theorem pA_5 (hA : pA κ a) {x : Int32} : pA κ (uM 80 5 x a) := by
  unfold pA at hA ⊢
  simp (disch := decide) only [uM_ne, uM80]
  exact hA
/-- an hour's call that is refused -/
theorem hr_no {H : Nat} (hH : H < 1 ∨ 24 < H) (hb : H < 100000) : R1 xs nx 1 0 [some (vR 0 (some 0)), some (vI 14), some (vI (iN H)), some (vI 0), some (vI 0), some (vI 0), some (vI 0), some (vI 0), none] [] (c, a, q, J) = nVl (-2000000) c (a, q + 1, J) := by
  rw [doR14]
  have hx : R1 xs nx 126 0 [some (vR 0 (some 0)), some (vI (iN H)), none, none] [] (c, a, q, J) = nTh 1 c (a, q, J) := by
    rcases wi79 (xs := xs) (nx := nx) (iN H) 1 24 with ⟨h3, -, -⟩ | ⟨-, -, h5, h6⟩
    · simp only [d_126_0, h3, bI, c80_0, bV, hE]
      rfl
    · exfalso
      rcases hH with h | h
      · exact h5 ((iN_lt (b := 1) (by omega) (by omega)).mpr h)
      · exact h6 ((iN_lt (a := 24) (by omega) (by omega)).mpr h)
  rw [hx]
  rfl
/-- behind each call: what is told -/
theorem lw442 (hJ : nJ κ i c m) (hi : i / 100000 = 0) (hA : pA κ a) (hc : a 80 5 = m 1 0) {k one two : Nat} (hk : k < 60) (h1 : one < 60000) (h2 : two < 70000) (x10 : Int32) (l13 l14 l15 : Option nV) : ∃ (a' : nM) (q' : Nat), (∀ t, t ≠ 2 → a' t = a t) ∧ q' ≤ q + 11 ∧ R1 xs nx 0 442 [some (vR 127 (some 1)), some (vR 0 (some 0)), some (vR 35 (some 0)), some (vR 45 (some 0)), some (vR 79 (some 0)), some (vR 29 (some 0)), some (vR 80 (some 0)), some (vR 2 (some 0)), some (vI 1), some (vI (iN k)), some (vI x10), some (vI (iN one)), some (vI (iN two)), l13, l14, l15] [] (c, a, q, J) = R1 xs nx 0 171 [some (vR 127 (some 1)), some (vR 0 (some 0)), some (vR 35 (some 0)), some (vR 45 (some 0)), some (vR 79 (some 0)), some (vR 29 (some 0)), some (vR 80 (some 0)), some (vR 2 (some 0)), some (vI 1), some (vI (iN (k + 1))), some (vI x10), some (vI (iN one)), some (vI (iN two)), l13, l14, l15] [] (c, a', q', J) := by
  have h26 := hJ.1.2.2.1.1
  obtain ⟨a1, b1, b2⟩ := arePl (xs := xs) (nx := nx) (q := q) (J := J) hJ hi hA hc
  have hA1 := pA_2 hA b1
  have hc1 : a1 80 5 = m 1 0 := by rw [b1 80 (by decide)]; exact hc
  have g1 : a1 80 2 = iN (fN c 26) := by rw [hA1.1.2.2.1, (nJ_k hJ).1.2.2.1]
  have hlt := Nat.mod_lt one (show 0 < fN c 26 + 1 by omega)
  have hlt2 := Nat.mod_lt two (show 0 < fN c 26 + 1 by omega)
  have hz : ¬ iN (fN c 26 + 1) = 0 := fun z => by have := (iN_inj (b := 0) (by omega) (by omega)).mp z; omega
  have em1 : iN one - iN one / iN (fN c 26 + 1) * iN (fN c 26 + 1) = iN (one % (fN c 26 + 1)) := mdN (fN c 26 + 1) (by omega) (by omega)
  have em2 : iN two - iN two / iN (fN c 26 + 1) * iN (fN c 26 + 1) = iN (two % (fN c 26 + 1)) := mdN (fN c 26 + 1) (by omega) (by omega)
  have em3 : iN k - iN k / (3 : Int32) * 3 = iN (k % 3) := mdN 3 (by omega) (by omega)
  obtain ⟨q2, r1, r2⟩ := isFs (xs := xs) (nx := nx) (q := q + 7) (J := J) hJ hi hA1 hc1 (its := one % (fN c 26 + 1)) (by omega)
  have st : R1 xs nx 0 442 [some (vR 127 (some 1)), some (vR 0 (some 0)), some (vR 35 (some 0)), some (vR 45 (some 0)), some (vR 79 (some 0)), some (vR 29 (some 0)), some (vR 80 (some 0)), some (vR 2 (some 0)), some (vI 1), some (vI (iN k)), some (vI x10), some (vI (iN one)), some (vI (iN two)), l13, l14, l15] [] (c, a, q, J) = _ := d_0_442 _ _ _ _ _ _ _ _ _
  rw [if_neg n10, b2, bI_Vl, if_neg n10, if_pos i62] at st
  dsimp only at st
  simp only [t62, g1, iN_add1] at st
  rw [if_neg hz, em1, r2, bI_Vl, if_neg n10, em3] at st
  by_cases h3 : k % 3 = 0
  · rw [if_neg (show ¬ (0 : Int32) < iN (k % 3) by rw [h3]; decide), if_pos i62] at st
    dsimp only at st
    simp only [g1, iN_add1] at st
    obtain ⟨a2, q3, u1, u2, u3⟩ := areSc (xs := xs) (nx := nx) (q := q2) (J := J) hJ hA1 hc1 (its := two % (fN c 26 + 1)) (by omega)
    rw [if_neg hz, em2, u3, bI_Vl, if_neg n10, d_0_512, d_0_517, iN_add1] at st
    exact ⟨a2, q3, fun t ht => by rw [u1 t ht, b1 t ht], by omega, st⟩
  · rw [if_pos (show (0 : Int32) < iN (k % 3) from (iN_lt (a := 0) (by omega) (by omega)).mpr (by omega)), d_0_512, d_0_517, iN_add1] at st
    exact ⟨a1, q2, b1, by omega, st⟩
/-- what a step of the law comes to -/
def lwR (xs : Nat → Int32) (nx : Nat) (r : Option nOut) (k i q t : Nat) (J : Nat → Int64) : Prop := ∃ (κ' : kP) (i' : Nat) (c' : nC) (m' a' : nM) (q' t' : Nat) (l10 l11 l12 l13 l14 l15 : Option nV), i' ≤ i + 6 ∧ q' ≤ q + 20 ∧ nJ κ' i' c' m' ∧ pA κ' a' ∧ m' 1 0 = iN t' ∧ t' ≤ t + 7 ∧ a' 80 5 = m' 1 0 ∧ r = R1 xs nx 0 171 [some (vR 127 (some 1)), some (vR 0 (some 0)), some (vR 35 (some 0)), some (vR 45 (some 0)), some (vR 79 (some 0)), some (vR 29 (some 0)), some (vR 80 (some 0)), some (vR 2 (some 0)), some (vI 1), some (vI (iN (k + 1))), l10, l11, l12, l13, l14, l15] [] (c', a', q', J)
theorem lwF {i0 q0 t t0 k one two : Nat} {r : Option nOut} {x10 : Int32} {l13 l14 l15 : Option nV} (hJ : nJ κ i c m) (hi : i ≤ i0 + 6) (hi0 : i0 ≤ 400) (hq : q ≤ q0 + 6) (hA : pA κ a) (et : m 1 0 = iN t) (ht : t ≤ t0 + 7) (hc : a 80 5 = m 1 0) (hk : k < 60) (h1 : one < 60000) (h2 : two < 70000) (st : r = R1 xs nx 0 442 [some (vR 127 (some 1)), some (vR 0 (some 0)), some (vR 35 (some 0)), some (vR 45 (some 0)), some (vR 79 (some 0)), some (vR 29 (some 0)), some (vR 80 (some 0)), some (vR 2 (some 0)), some (vI 1), some (vI (iN k)), some (vI x10), some (vI (iN one)), some (vI (iN two)), l13, l14, l15] [] (c, a, q, J)) : lwR xs nx r k i0 q0 t0 J := by
  obtain ⟨a', q', u1, u2, u3⟩ := lw442 (xs := xs) (nx := nx) (q := q) (J := J) hJ (by omega) hA hc hk h1 h2 x10 l13 l14 l15
  exact ⟨κ, i, c, m, a', q', t, _, _, _, _, _, _, hi, by omega, hJ, pA_2 hA u1, et, ht, by rw [u1 80 (by decide)]; exact hc, st.trans u3⟩
/-- a net's step -/
theorem lwNet {t k one two y : Nat} {r : Option nOut} {x10 : Int32} {l13 l14 l15 : Option nV} (hJ : nJ κ i c m) (hi : i ≤ 400) (hA : pA κ a) (et : m 1 0 = iN t) (hc : a 80 5 = m 1 0) (hk : k < 60) (h1 : one < 60000) (h2 : two < 70000) (hy : y < 10) (st : r = R1 xs nx 0 267 [some (vR 127 (some 1)), some (vR 0 (some 0)), some (vR 35 (some 0)), some (vR 45 (some 0)), some (vR 79 (some 0)), some (vR 29 (some 0)), some (vR 80 (some 0)), some (vR 2 (some 0)), some (vI 1), some (vI (iN k)), some (vI x10), some (vI (iN one)), some (vI (iN two)), l13, l14, l15] [(vI (iN y)), (vR 80 (some 0)), (vR 29 (some 0)), (vR 79 (some 0)), (vR 45 (some 0)), (vR 35 (some 0)), (vR 0 (some 0))] (c, a, q, J)) : lwR xs nx r k i q t J := by
  obtain ⟨κ', i', c', m', a', q', b1, b2, b3, hJ', hA', p0, p5, hr⟩ := netAll (xs := xs) (nx := nx) (q := q) (J := J) (by omega) hJ hA hy h1 h2
  have s2 : R1 xs nx 0 267 [some (vR 127 (some 1)), some (vR 0 (some 0)), some (vR 35 (some 0)), some (vR 45 (some 0)), some (vR 79 (some 0)), some (vR 29 (some 0)), some (vR 80 (some 0)), some (vR 2 (some 0)), some (vI 1), some (vI (iN k)), some (vI x10), some (vI (iN one)), some (vI (iN two)), l13, l14, l15] [(vI (iN y)), (vR 80 (some 0)), (vR 29 (some 0)), (vR 79 (some 0)), (vR 45 (some 0)), (vR 35 (some 0)), (vR 0 (some 0))] (c, a, q, J) = _ := d_0_267 _ _ _ _ _ _ _ _ _ _
  rw [hr, bI_Vl] at s2
  exact lwF hJ' (by omega) hi (by omega) hA' (p0.trans et) (by omega) (by rw [p5, p0]; exact hc) hk h1 h2 (st.trans s2)
/-- an hour's step -/
theorem lwHr {t k one two H : Nat} {r : Option nOut} {x10 : Int32} {l13 l14 l15 : Option nV} (hJ : nJ κ i c m) (hi : i ≤ 400) (hA : pA κ a) (et : m 1 0 = iN t) (ht : t + 7 ≤ 600) (hc : a 80 5 = m 1 0) (hk : k < 60) (h1 : one < 60000) (h2 : two < 70000) (hH : H ≤ 7) (st : r = R1 xs nx 0 351 [some (vR 127 (some 1)), some (vR 0 (some 0)), some (vR 35 (some 0)), some (vR 45 (some 0)), some (vR 79 (some 0)), some (vR 29 (some 0)), some (vR 80 (some 0)), some (vR 2 (some 0)), some (vI 1), some (vI (iN k)), some (vI x10), some (vI (iN one)), some (vI (iN two)), l13, l14, l15] [vI (iN H)] (c, a, q, J)) : lwR xs nx r k i q t J := by
  have s2 : R1 xs nx 0 351 [some (vR 127 (some 1)), some (vR 0 (some 0)), some (vR 35 (some 0)), some (vR 45 (some 0)), some (vR 79 (some 0)), some (vR 29 (some 0)), some (vR 80 (some 0)), some (vR 2 (some 0)), some (vI 1), some (vI (iN k)), some (vI x10), some (vI (iN one)), some (vI (iN two)), l13, l14, l15] [vI (iN H)] (c, a, q, J) = _ := d_0_351 _ _ _ _ _ _ _ _ _ _
  rw [q147h hJ, bI_Vl] at s2
  by_cases h0 : H = 0
  · subst h0
    rw [hr_no (Or.inl (by decide)) (by decide), bI_Vl, if_pos i65, if_pos i65, if_pos (show iN 0 = (0 : Int32) from rfl), if_pos rfl, d_0_440] at s2
    dsimp only at s2
    simp only [t65] at s2
    have e0 : a 80 5 + iN 0 = a 80 5 := iN_a0
    refine lwF (a := uM 80 5 (a 80 5 + iN 0) a) hJ (by omega) hi (by omega) (pA_5 hA) et (by omega) ?_ hk h1 h2 (st.trans s2)
    rw [uM_at, if_pos rfl, e0]
    exact hc
  · have hn : ¬ iN H = 0 := fun z => h0 ((iN_inj (b := 0) (by omega) (by omega)).mp z)
    obtain ⟨κ', c', m', hJ', hd⟩ := do14 (xs := xs) (nx := nx) (a := a) (q := q) (J := J) (by omega) hJ (iN H) 0 0 0 0 0
    rcases hd with ⟨v, ⟨g, g1, g2, g3⟩, hr⟩ | ⟨-, ⟨f, hr⟩ | ⟨f, hr⟩ | ⟨f, hr⟩⟩
    · have h40 := han40 hJ'
      rw [g1] at h40
      have h40 : κ.1 + g ≤ 40 := h40
      have e5 : m' 1 0 = a 80 5 + iN H := by rw [g3, hc]
      rw [hr, bI_Vl, if_pos i65, if_pos i65, if_neg hn, g2, if_neg (show ¬ iN g < 0 from iN_pos (by omega))] at s2
      dsimp only at s2
      rw [q143 _ hJ', bI_Vl, if_pos i65] at s2
      dsimp only at s2
      simp only [t65, uM_at, if_true] at s2
      rw [if_pos e5, q147h hJ', bI_Vl, if_pos (show iN κ'.1 = iN κ.1 + iN g by rw [g1]; exact i32_add.symm), d_0_440] at s2
      refine lwF (t := t + H) hJ' (by omega) hi (by omega) (pA_5 (pA_κ hA (by rw [g1]))) (by rw [g3, et]; exact i32_add) (by omega) ?_ hk h1 h2 (st.trans s2)
      rw [uM_at, if_pos rfl]
      exact e5.symm
    · exfalso
      have f : (0 = 1 ∧ ¬ nIn (iN H) 1 24) ∨ (0 = 2 ∧ ∃ t H', m 1 0 = iN t ∧ iN H = iN H' ∧ t ≤ 600 ∧ H' ≤ 24 ∧ 600 < t + H') := f
      rcases f with ⟨z, -⟩ | ⟨z, -⟩ <;> cases z
    · exfalso
      have f : (1 = 1 ∧ ¬ nIn (iN H) 1 24) ∨ (1 = 2 ∧ ∃ t H', m 1 0 = iN t ∧ iN H = iN H' ∧ t ≤ 600 ∧ H' ≤ 24 ∧ 600 < t + H') := f
      rcases f with ⟨-, z⟩ | ⟨z, -⟩
      · exact z ⟨H, by omega, by omega, rfl⟩
      · cases z
    · exfalso
      have f : (2 = 1 ∧ ¬ nIn (iN H) 1 24) ∨ (2 = 2 ∧ ∃ t H', m 1 0 = iN t ∧ iN H = iN H' ∧ t ≤ 600 ∧ H' ≤ 24 ∧ 600 < t + H') := f
      rcases f with ⟨z, -⟩ | ⟨-, t', H', z1, z2, z3, z4, z5⟩
      · cases z
      · have e1 : t = t' := (iN_inj (by omega) (by omega)).mp (et.symm.trans z1)
        have e2 : H = H' := (iN_inj (by omega) (by omega)).mp z2
        omega
/-- a step -/
theorem lwS (hnx : nx < 2 ^ 31) {t k : Nat} (hJ : nJ κ i c m) (hi : i ≤ 400) (hA : pA κ a) (et : m 1 0 = iN t) (ht : t + 7 ≤ 600) (hc : a 80 5 = m 1 0) (hk : k < 60) (l10 l11 l12 l13 l14 l15 : Option nV) : lwR xs nx (R1 xs nx 0 171 [some (vR 127 (some 1)), some (vR 0 (some 0)), some (vR 35 (some 0)), some (vR 45 (some 0)), some (vR 79 (some 0)), some (vR 29 (some 0)), some (vR 80 (some 0)), some (vR 2 (some 0)), some (vI 1), some (vI (iN k)), l10, l11, l12, l13, l14, l15] [] (c, a, q, J)) k i q t J := by
  obtain ⟨w, hw, ew⟩ := part3 (xs := xs) (3 * k + 28) (by omega) hnx (n := 40) (by decide) (by decide)
  obtain ⟨one, h1, e1⟩ := part3 (xs := xs) (3 * k + 29) (by omega) hnx (n := 60000) (by decide) (by decide)
  obtain ⟨two, h2, e2⟩ := part3 (xs := xs) (3 * k + 30) (by omega) hnx (n := 70000) (by decide) (by decide)
  have ew : ∀ s, R1 xs nx 3 0 [some (vR 127 (some 1)), some (vI (iN (3 * k + 28))), some (vI (40 : Int32)), none] [] s = some (.inl (some (vI (iN w))), s) := ew
  have e1 : ∀ s, R1 xs nx 3 0 [some (vR 127 (some 1)), some (vI (iN (3 * k + 29))), some (vI (60000 : Int32)), none] [] s = some (.inl (some (vI (iN one))), s) := e1
  have e2 : ∀ s, R1 xs nx 3 0 [some (vR 127 (some 1)), some (vI (iN (3 * k + 30))), some (vI (70000 : Int32)), none] [] s = some (.inl (some (vI (iN two))), s) := e2
  have m3 : (3 : Int32) * iN k = iN (3 * k) := iN_mul (a := 3)
  have f1 : iN (3 * k) + (28 : Int32) = iN (3 * k + 28) := i32_add (b := 28)
  have f2 : iN (3 * k) + (29 : Int32) = iN (3 * k + 29) := i32_add (b := 29)
  have f3 : iN (3 * k) + (30 : Int32) = iN (3 * k + 30) := i32_add (b := 30)
  have st : R1 xs nx 0 171 [some (vR 127 (some 1)), some (vR 0 (some 0)), some (vR 35 (some 0)), some (vR 45 (some 0)), some (vR 79 (some 0)), some (vR 29 (some 0)), some (vR 80 (some 0)), some (vR 2 (some 0)), some (vI 1), some (vI (iN k)), l10, l11, l12, l13, l14, l15] [] (c, a, q, J) = _ := d_0_171 _ _ _ _ _ _ _ _ _
  rw [if_pos (show iN k < (60 : Int32) from (iN_lt (b := 60) (by omega) (by omega)).mpr hk), if_neg n10, m3, f1, f2, f3, ew, bI_some, e1, bI_some, e2, bI_some] at st
  have lt_ : ∀ b : Nat, b < 100 → (iN w < iN b ↔ w < b) := fun b hb => iN_lt (by omega) (by omega)
  by_cases w9 : w < 9
  · rw [if_pos (show iN w < (9 : Int32) from (lt_ 9 (by decide)).mpr w9)] at st
    by_cases w3 : w < 3
    · rw [if_pos (show iN w < (3 : Int32) from (lt_ 3 (by decide)).mpr w3)] at st
      exact lwNet (y := 2) hJ hi hA et hc hk h1 h2 (by decide) st
    · rw [if_neg (show ¬ iN w < (3 : Int32) from fun z => w3 ((lt_ 3 (by decide)).mp z))] at st
      by_cases w33 : w = 3
      · rw [if_pos (show iN w = (3 : Int32) by rw [w33]; rfl)] at st
        exact lwNet (y := 9) hJ hi hA et hc hk h1 h2 (by decide) st
      · rw [if_neg (show ¬ iN w = (3 : Int32) from fun z => w33 ((iN_inj (b := 3) (by omega) (by omega)).mp z))] at st
        exact lwNet (y := w) hJ hi hA et hc hk h1 h2 (by omega) st
  · rw [if_neg (show ¬ iN w < (9 : Int32) from fun z => w9 ((lt_ 9 (by decide)).mp z))] at st
    by_cases w18 : w < 18
    · obtain ⟨κ', i', c', m', a', q', b1, b2, b3, hJ', hA', p0, p5, hr⟩ := isPa (xs := xs) (nx := nx) (q := q) (J := J) (by omega) hJ hA hc h1 h2
      rw [if_pos (show iN w < (18 : Int32) from (lt_ 18 (by decide)).mpr w18), hr, bI_Vl] at st
      exact lwF hJ' (by omega) hi (by omega) hA' (p0.trans et) (by omega) (by rw [p5, p0]; exact hc) hk h1 h2 st
    · rw [if_neg (show ¬ iN w < (18 : Int32) from fun z => w18 ((lt_ 18 (by decide)).mp z))] at st
      by_cases w27 : w < 27
      · obtain ⟨κ', i', c', m', a', q', b1, b2, b3, hJ', hA', p0, p5, hr⟩ := isCh (xs := xs) (nx := nx) (q := q) (J := J) (by omega) hJ hA (w := w - 18) (by omega) h1 h2
        rw [if_pos (show iN w < (27 : Int32) from (lt_ 27 (by decide)).mpr w27), show iN w - (18 : Int32) = iN (w - 18) from i32_sub (b := 18) (by omega) (by omega), hr, bI_Vl] at st
        exact lwF hJ' (by omega) hi (by omega) hA' (p0.trans et) (by omega) (by rw [p5, p0]; exact hc) hk h1 h2 st
      · rw [if_neg (show ¬ iN w < (27 : Int32) from fun z => w27 ((lt_ 27 (by decide)).mp z))] at st
        have e30 : iN one - iN one / (30 : Int32) * 30 = iN (one % 30) := mdN 30 (by omega) (by omega)
        have e7 : iN one - iN one / (7 : Int32) * 7 = iN (one % 7) := mdN 7 (by omega) (by omega)
        rw [e30, e7] at st
        by_cases z : one % 30 = 0
        · rw [if_pos (show iN (one % 30) = (0 : Int32) by rw [z]; rfl)] at st
          exact lwHr (H := 0) hJ hi hA et ht hc hk h1 h2 (by decide) st
        · rw [if_neg (show ¬ iN (one % 30) = (0 : Int32) from fun y => z ((iN_inj (b := 0) (by omega) (by omega)).mp y)), show (1 : Int32) + iN (one % 7) = iN (1 + one % 7) from i32_add (a := 1)] at st
          exact lwHr (H := 1 + one % 7) hJ hi hA et ht hc hk h1 h2 (by omega) st
/-- all steps -/
theorem lwL (hnx : nx < 2 ^ 31) : ∀ (n k : Nat) (κ : kP) (i q t : Nat) (c : nC) (m a : nM) (l10 l11 l12 l13 l14 l15 : Option nV), k + n = 60 → nJ κ i c m → i + 6 * n ≤ 402 → pA κ a → m 1 0 = iN t → t + 7 * n ≤ 600 → a 80 5 = m 1 0 →
    ∃ (κ' : kP) (i' : Nat) (c' : nC) (m' a' : nM) (q' : Nat), q' ≤ q + 20 * n + 3 ∧ nJ κ' i' c' m' ∧ R1 xs nx 0 171 [some (vR 127 (some 1)), some (vR 0 (some 0)), some (vR 35 (some 0)), some (vR 45 (some 0)), some (vR 79 (some 0)), some (vR 29 (some 0)), some (vR 80 (some 0)), some (vR 2 (some 0)), some (vI 1), some (vI (iN k)), l10, l11, l12, l13, l14, l15] [] (c, a, q, J) = nVl 1 c' (a', q', J) := by
  intro n
  induction n with
  | zero =>
    intro k κ i q t c m a l10 l11 l12 l13 l14 l15 e hJ hi hA et ht hc
    have ek : k = 60 := by omega
    subst ek
    have h26 := hJ.1.2.2.1.1
    have g2 : a 80 2 = iN (fN c 26) := by rw [hA.1.2.2.1, (nJ_k hJ).1.2.2.1]
    have st : R1 xs nx 0 171 [some (vR 127 (some 1)), some (vR 0 (some 0)), some (vR 35 (some 0)), some (vR 45 (some 0)), some (vR 79 (some 0)), some (vR 29 (some 0)), some (vR 80 (some 0)), some (vR 2 (some 0)), some (vI 1), some (vI (iN 60)), l10, l11, l12, l13, l14, l15] [] (c, a, q, J) = _ := d_0_171 _ _ _ _ _ _ _ _ _
    rw [if_neg (show ¬ iN 60 < (60 : Int32) by decide), d_0_525, if_neg n10, kE2 hJ, bI_Vl, if_pos rfl, if_pos i62] at st
    dsimp only at st
    simp only [t62, g2] at st
    by_cases h0 : fN c 26 = 0
    · rw [if_pos (show iN (fN c 26) = 0 by rw [h0]; rfl), d_0_563, kE13 hJ, bI_Vl, if_pos rfl] at st
      exact ⟨κ, i, c, m, a, _, by omega, hJ, st⟩
    · rw [if_neg (show ¬ iN (fN c 26) = 0 from fun y => h0 ((iN_inj (b := 0) (by omega) (by omega)).mp y)), kE2b hJ (by omega), bI_Vl, if_pos rfl, d_0_563, kE13 hJ, bI_Vl, if_pos rfl] at st
      exact ⟨κ, i, c, m, a, _, by omega, hJ, st⟩
  | succ n ih =>
    intro k κ i q t c m a l10 l11 l12 l13 l14 l15 e hJ hi hA et ht hc
    obtain ⟨κ', i', c', m', a', q', t', y10, y11, y12, y13, y14, y15, b1, b2, hJ', hA', et', ht', hc', st⟩ := lwS (xs := xs) (q := q) (J := J) hnx hJ (by omega) hA et (by omega) hc (show k < 60 by omega) l10 l11 l12 l13 l14 l15
    obtain ⟨κ2, i2, c2, m2, a2, q2, d1, d2, d3⟩ := ih (k + 1) κ' i' q' t' c' m' a' y10 y11 y12 y13 y14 y15 (by omega) hJ' (by omega) hA' et' (by omega) hc'
    exact ⟨κ2, i2, c2, m2, a2, q2, by omega, d2, st.trans d3⟩
/-- the net at the start -/
theorem lwN (hnx : nx < 2 ^ 31) : ∀ (n k : Nat) (κ : kP) (i q : Nat) (c : nC) (m a : nM), k + n = 14 → nJ κ i c m → i + 3 * n ≤ 42 → pA κ a →
    ∃ (κ' : kP) (i' : Nat) (c' : nC) (m' a' : nM) (q' : Nat), i' ≤ i + 3 * n ∧ q' ≤ q + 3 * n ∧ nJ κ' i' c' m' ∧ pA κ' a' ∧ m' 1 0 = m 1 0 ∧ a' 80 5 = a 80 5 ∧ R1 xs nx 0 109 [some (vR 127 (some 1)), some (vR 0 (some 0)), some (vR 35 (some 0)), some (vR 45 (some 0)), some (vR 79 (some 0)), some (vR 29 (some 0)), some (vR 80 (some 0)), some (vR 2 (some 0)), some (vI 1), some (vI (iN k)), none, none, none, none, none, none] [] (c, a, q, J) = R1 xs nx 0 171 [some (vR 127 (some 1)), some (vR 0 (some 0)), some (vR 35 (some 0)), some (vR 45 (some 0)), some (vR 79 (some 0)), some (vR 29 (some 0)), some (vR 80 (some 0)), some (vR 2 (some 0)), some (vI 1), some (vI 0), none, none, none, none, none, none] [] (c', a', q', J) := by
  intro n
  induction n with
  | zero =>
    intro k κ i q c m a e hJ hi hA
    have ek : k = 14 := by omega
    subst ek
    have st : R1 xs nx 0 109 [some (vR 127 (some 1)), some (vR 0 (some 0)), some (vR 35 (some 0)), some (vR 45 (some 0)), some (vR 79 (some 0)), some (vR 29 (some 0)), some (vR 80 (some 0)), some (vR 2 (some 0)), some (vI 1), some (vI (iN 14)), none, none, none, none, none, none] [] (c, a, q, J) = _ := d_0_109 _ _ _
    rw [if_neg (show ¬ iN 14 < (14 : Int32) by decide), d_0_168] at st
    exact ⟨κ, i, c, m, a, q, by omega, by omega, hJ, hA, rfl, rfl, st⟩
  | succ n ih =>
    intro k κ i q c m a e hJ hi hA
    obtain ⟨one, h1, e1⟩ := part3 (xs := xs) (2 * k) (by omega) hnx (n := 60000) (by decide) (by decide)
    obtain ⟨two, h2, e2⟩ := part3 (xs := xs) (2 * k + 1) (by omega) hnx (n := 70000) (by decide) (by decide)
    have e1 : ∀ s, R1 xs nx 3 0 [some (vR 127 (some 1)), some (vI (iN (2 * k))), some (vI (60000 : Int32)), none] [] s = some (.inl (some (vI (iN one))), s) := e1
    have e2 : ∀ s, R1 xs nx 3 0 [some (vR 127 (some 1)), some (vI (iN (2 * k + 1))), some (vI (70000 : Int32)), none] [] s = some (.inl (some (vI (iN two))), s) := e2
    have m2 : (2 : Int32) * iN k = iN (2 * k) := iN_mul (a := 2)
    have e7 : iN k - iN k / (7 : Int32) * 7 = iN (k % 7) := mdN 7 (by omega) (by omega)
    obtain ⟨κ', i', c', m', a', q', b1, b2, b3, hJ', hA', p0, p5, hr⟩ := netAll (xs := xs) (nx := nx) (q := q) (J := J) (by omega) hJ hA (w := k % 7) (by omega) h1 h2
    have st : R1 xs nx 0 109 [some (vR 127 (some 1)), some (vR 0 (some 0)), some (vR 35 (some 0)), some (vR 45 (some 0)), some (vR 79 (some 0)), some (vR 29 (some 0)), some (vR 80 (some 0)), some (vR 2 (some 0)), some (vI 1), some (vI (iN k)), none, none, none, none, none, none] [] (c, a, q, J) = _ := d_0_109 _ _ _
    rw [if_pos (show iN k < (14 : Int32) from (iN_lt (b := 14) (by omega) (by omega)).mpr (by omega)), if_neg n10, m2, show iN (2 * k) + 1 = iN (2 * k + 1) from iN_add1, e7, e1, bI_some, e2, bI_some, hr, bI_Vl, show iN k + 1 = iN (k + 1) from iN_add1] at st
    obtain ⟨κ2, i2, c2, m2', a2, q2, d1, d2, d3, d4, d5, d6, d7⟩ := ih (k + 1) κ' i' q' c' m' a' (by omega) hJ' (by omega) hA'
    exact ⟨κ2, i2, c2, m2', a2, q2, by omega, by omega, d3, d4, d5.trans p0, d6.trans p5, st.trans d7⟩
/-- the law from its first call -/
theorem lw41 (hnx : nx < 2 ^ 31) (hJ : nJ κ 0 c m) (hA : pA κ a) (h0 : m 1 0 = 0) (h5 : a 80 5 = 0) (hB : fL c 19 0 = []) : ∃ (κ' : kP) (i' : Nat) (c' : nC) (m' a' : nM) (q' : Nat), q' ≤ q + 2000 ∧ nJ κ' i' c' m' ∧ R1 xs nx 0 41 [some (vR 127 (some 1)), some (vR 0 (some 0)), some (vR 35 (some 0)), some (vR 45 (some 0)), some (vR 79 (some 0)), some (vR 29 (some 0)), some (vR 80 (some 0)), some (vR 2 (some 0)), none, none, none, none, none, none, none, none] [] (c, a, q, J) = nVl 1 c' (a', q', J) := by
  have st : R1 xs nx 0 41 [some (vR 127 (some 1)), some (vR 0 (some 0)), some (vR 35 (some 0)), some (vR 45 (some 0)), some (vR 79 (some 0)), some (vR 29 (some 0)), some (vR 80 (some 0)), some (vR 2 (some 0)), none, none, none, none, none, none, none, none] [] (c, a, q, J) = _ := d_0_41 _
  rw [q143 _ hJ, bI_Vl, if_pos h0, q156, bI_Vl, if_pos (show iN (fL c 19 0).length = 0 by rw [hB]; rfl), kE9, bI_Vl, if_pos rfl, kE10, bI_Vl, if_pos rfl, show (25 : Int32) = iN 25 from rfl, hr_no (Or.inr (by decide)) (by decide), bI_Vl, if_pos rfl, d_0_104, show (0 : Int32) = iN 0 from rfl] at st
  obtain ⟨κ1, i1, c1, m1, a1, q1, b1, b2, b3, b4, b5, b6, b7⟩ := lwN (xs := xs) (J := J) hnx 14 0 κ 0 (q + 1 + 1 + 1) c m a (Nat.zero_add _) hJ (by omega) hA
  obtain ⟨κ2, i2, c2, m2, a2, q2, d1, d2, d3⟩ := lwL (xs := xs) (J := J) hnx 60 0 κ1 i1 q1 0 c1 m1 a1 none none none none none none (Nat.zero_add _) b3 (by omega) b4 (b5.trans h0) (by omega) (by rw [b6, b5, h0, h5])
  exact ⟨κ2, i2, c2, m2, a2, q2, by omega, d2, st.trans (b7.trans d3)⟩
end LAW
end KAP
