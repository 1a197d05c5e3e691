/-! ===== isChanged: made by wip/p46/gen2/mk98zv.py ===== -/
def lRes3 (xs : Nat → Int32) (nx : Nat) (r : Option nOut) (i n : Nat) (c : nC) (m a : nM) (q : Nat) (J : Nat → Int64) : Prop := ∃ (κ' : kP) (i' : Nat) (c' : nC) (m' : nM) (q' : Nat), i ≤ i' ∧ i' ≤ i + n ∧ q' ≤ q + n ∧ nJ κ' i' c' m' ∧ pA κ' a ∧ m' 1 0 = m 1 0 ∧ r = nVl 1 c' (a, q', J)
theorem nneg {x : Nat} {y : Int32} (hx : x < 2 ^ 31) (hy : y < 0) : ¬ iN x = y := fun e => iN_pos hx (by rw [e]; exact hy)
section KAP
variable {κ κ' : kP}
section CHG
variable {xs : Nat → Int32} {nx : Nat} {i : Nat} {c : nC} {m a : nM} {q : Nat} {J : Nat → Int64}
theorem n26_of {i' : Nat} {c' : nC} {m' : nM} (hJ : nJ κ i c m) (hJ' : nJ κ' i' c' m') (e : κ'.2 = κ.2) : fN c' 26 = fN c 26 := by
  rw [← (nJ_k hJ').1.2.2.1, e, (nJ_k hJ).1.2.2.1]
theorem pA_κ (hA : pA κ a) (e : κ'.2 = κ.2) : pA κ' a := by
  unfold pA at hA ⊢
  rw [e]
  exact hA
theorem tgD5 (hJ : nJ κ i c m) {k : Nat} (hk : k < fN c 26) : tgD c m k < 5 := by
  obtain ⟨D, hD, eD, -, -⟩ := tgt64 (xs := fun _ => 0) (nx := 0) (k := k) hJ hk
  have eD : D = tgD c m k := eD
  omega
def BDp (m : nM) (t : Nat) : Prop := m 66 t = 4 ∨ m 66 t = 5 ∨ m 66 t = 7 ∨ m 66 t = 8
def BDp0 (m : nM) (t : Nat) : Bool := decide (m 66 t = 4 ∨ m 66 t = 5 ∨ m 66 t = 7 ∨ m 66 t = 8)
/-- the way in: there is such a parcel -/
theorem chY (hJ : nJ κ i c m) (hA : pA κ a) {one two t : Nat} (h1 : one < 60000) (ht : t = one % (fN c 26 + 1)) (hT : t < fN c 26) (W : Int32) : ∃ (u : Nat) (bd : Int32), u < 4 ∧ m 49 t = iN u ∧ ((bd = 1 ∧ BDp m t) ∨ (bd = 0 ∧ ¬ BDp m t)) ∧ R1 xs nx 10 0 [some (vR 0 (some 0)), some (vR 35 (some 0)), some (vR 45 (some 0)), some (vR 29 (some 0)), some (vR 80 (some 0)), some (vI W), some (vI (iN one)), some (vI (iN two)), none, none, none, none, none, none, none, none, none, none, none, none, none] [] (c, a, q, J) = R1 xs nx 10 94 [some (vR 0 (some 0)), some (vR 35 (some 0)), some (vR 45 (some 0)), some (vR 29 (some 0)), some (vR 80 (some 0)), some (vI W), some (vI (iN one)), some (vI (iN two)), some (vI (iN t)), some (vI 1), some (vI (m 66 t)), some (vI (iN u)), some (vI (m 90 u)), none, none, none, none, none, none, none, none] [vI bd] (c, a, q, J) := by
  have h26 := hJ.1.2.2.1.1
  have z2 : a 80 2 = iN (fN c 26) := by rw [hA.1.2.2.1, (nJ_k hJ).1.2.2.1]
  obtain ⟨⟨u, u1, -, u3⟩, -⟩ := hJ.2.2.2.2.2.1 t hT
  obtain ⟨-, n0, hn0, en0⟩ := kind8 hJ hT
  have hz : ¬ iN (fN c 26 + 1) = 0 := fun z => by have := (iN_inj (b := 0) (by omega) (by omega)).mp z; omega
  have em : iN one - iN one / iN (fN c 26 + 1) * iN (fN c 26 + 1) = iN t := by rw [ht]; exact mdN (fN c 26 + 1) (by omega) (by omega)
  have st : R1 xs nx 10 0 [some (vR 0 (some 0)), some (vR 35 (some 0)), some (vR 45 (some 0)), some (vR 29 (some 0)), some (vR 80 (some 0)), some (vI W), some (vI (iN one)), some (vI (iN two)), none, none, none, none, none, none, none, none, none, none, none, none, none] [] (c, a, q, J) = _ := d_10_0 _ _ _ _
  rw [if_pos i62] at st
  dsimp only at st
  simp only [t62, z2, iN_add1] at st
  rw [if_neg hz, if_pos i62, em, if_pos ((iN_lt (by omega) (by omega)).mpr hT), d_10_25, if_neg n10, q144 _ hJ hT, bI_Vl, d_10_42, if_neg n10, q146_1 _ hJ hT, bI_Vl, u3, d_10_60, q154 _ hJ u1, bI_Vl] at st
  refine ⟨u, if BDp0 m t = true then 1 else 0, u1, u3, ?_, ?_⟩
  · unfold BDp0 BDp
    by_cases h : m 66 t = 4 ∨ m 66 t = 5 ∨ m 66 t = 7 ∨ m 66 t = 8
    · exact Or.inl ⟨by rw [if_pos (decide_eq_true h)], h⟩
    · exact Or.inr ⟨by rw [if_neg (fun z => h (of_decide_eq_true z))], h⟩
  · rw [st]
    unfold BDp0
    by_cases k4 : m 66 t = 4
    · rw [if_pos k4, d_10_89, if_pos (decide_eq_true (Or.inl k4))]
    · by_cases k5 : m 66 t = 5
      · rw [if_neg k4, if_pos k5, d_10_89, if_pos (decide_eq_true (Or.inr (Or.inl k5)))]
      · by_cases k6 : (6 : Int32) < m 66 t
        · rw [if_neg k4, if_neg k5, if_pos k6, d_10_89, if_pos]
          refine decide_eq_true (Or.inr (Or.inr ?_))
          rw [en0] at k6 ⊢
          have := (iN_lt (a := 6) (by omega) (by omega)).mp k6
          obtain rfl | rfl : n0 = 7 ∨ n0 = 8 := by omega
          · exact Or.inl rfl
          · exact Or.inr rfl
        · rw [if_neg k4, if_neg k5, if_neg k6, if_neg]
          intro z
          rcases of_decide_eq_true z with z | z | z | z
          · exact k4 z
          · exact k5 z
          · exact k6 (by rw [z]; decide)
          · exact k6 (by rw [z]; decide)
/-- the way in: there is no such parcel -/
theorem chN (hJ : nJ κ i c m) (hA : pA κ a) {one two t : Nat} (h1 : one < 60000) (ht : t = one % (fN c 26 + 1)) (hT : ¬ t < fN c 26) (W : Int32) : R1 xs nx 10 0 [some (vR 0 (some 0)), some (vR 35 (some 0)), some (vR 45 (some 0)), some (vR 29 (some 0)), some (vR 80 (some 0)), some (vI W), some (vI (iN one)), some (vI (iN two)), none, none, none, none, none, none, none, none, none, none, none, none, none] [] (c, a, q, J) = R1 xs nx 10 94 [some (vR 0 (some 0)), some (vR 35 (some 0)), some (vR 45 (some 0)), some (vR 29 (some 0)), some (vR 80 (some 0)), some (vI W), some (vI (iN one)), some (vI (iN two)), some (vI (iN t)), some (vI 0), some (vI (-1)), some (vI 0), some (vI (m 90 0)), none, none, none, none, none, none, none, none] [vI 0] (c, a, q, J) := by
  have h26 := hJ.1.2.2.1.1
  have z2 : a 80 2 = iN (fN c 26) := by rw [hA.1.2.2.1, (nJ_k hJ).1.2.2.1]
  have hz : ¬ iN (fN c 26 + 1) = 0 := fun z => by have := (iN_inj (b := 0) (by omega) (by omega)).mp z; omega
  have hlt := Nat.mod_lt one (show 0 < fN c 26 + 1 by omega)
  have em : iN one - iN one / iN (fN c 26 + 1) * iN (fN c 26 + 1) = iN t := by rw [ht]; exact mdN (fN c 26 + 1) (by omega) (by omega)
  have st : R1 xs nx 10 0 [some (vR 0 (some 0)), some (vR 35 (some 0)), some (vR 45 (some 0)), some (vR 29 (some 0)), some (vR 80 (some 0)), some (vI W), some (vI (iN one)), some (vI (iN two)), none, none, none, none, none, none, none, none, none, none, none, none, none] [] (c, a, q, J) = _ := d_10_0 _ _ _ _
  rw [if_pos i62] at st
  dsimp only at st
  simp only [t62, z2, iN_add1] at st
  have Q := q154 (xs := xs) (nx := nx) (a, q, J) hJ (u := 0) (by omega)
  rw [show (iN 0 : Int32) = 0 from rfl] at Q
  rw [if_neg hz, if_pos i62, em, if_neg (iN_nlt (by omega) (by omega) (by omega)), d_10_25, if_pos rfl, d_10_42, if_pos rfl, d_10_60, Q, bI_Vl, if_neg (by decide), if_neg (by decide), if_neg (by decide)] at st
  exact st
theorem nidx {n t : Nat} (hn : n ≤ 40) (ht : t ≤ 40) (h : ¬ t < n) : ¬ ∃ k, k < n ∧ iN t = iN k := by
  rintro ⟨k, k1, k2⟩
  have := (iN_inj (by omega) (by omega)).mp k2
  omega
/-! no such parcel -/
theorem chN0 (hi : i + 2 < 512) (hJ : nJ κ i c m) (hA : pA κ a) {one two t : Nat} (h2 : two < 70000) (ht : t ≤ 40) (hT : ¬ t < fN c 26) : lRes3 xs nx (R1 xs nx 10 94 [some (vR 0 (some 0)), some (vR 35 (some 0)), some (vR 45 (some 0)), some (vR 29 (some 0)), some (vR 80 (some 0)), some (vI 0), some (vI (iN one)), some (vI (iN two)), some (vI (iN t)), some (vI 0), some (vI (-1)), some (vI 0), some (vI (m 90 0)), none, none, none, none, none, none, none, none] [vI 0] (c, a, q, J)) i 2 c m a q J := by
  have h26 := hJ.1.2.2.1.1
  have z1 : a 80 1 = iN (fN c 24) := by rw [hA.1.2.1, (nJ_k hJ).1.2.1]
  have h24 := hJ.1.2.1.1
  have hx := nidx h26 ht hT
  have e2 : iN two - iN two / (2 : Int32) * 2 = iN (two % 2) := mdN 2 (by omega) (by omega)
  have hb2 : iN (two % 2) = 0 ∨ iN (two % 2) = 1 := by
    rcases Nat.mod_two_eq_zero_or_one two with h | h
    · exact Or.inl (by rw [h]; rfl)
    · exact Or.inr (by rw [h]; rfl)
  have st : R1 xs nx 10 94 [some (vR 0 (some 0)), some (vR 35 (some 0)), some (vR 45 (some 0)), some (vR 29 (some 0)), some (vR 80 (some 0)), some (vI 0), some (vI (iN one)), some (vI (iN two)), some (vI (iN t)), some (vI 0), some (vI (-1)), some (vI 0), some (vI (m 90 0)), none, none, none, none, none, none, none, none] [vI 0] (c, a, q, J) = _ := d_10_94 _ _ _ _ _ _ _ _ _ _
  rw [if_pos (show (0 : Int32) = 0 from rfl), e2] at st
  obtain ⟨κ', c', m', hJ', hd⟩ := do15 (xs := xs) (nx := nx) (a := a) (q := q) (J := J) (by omega) hJ (iN t) (iN (two % 2)) 0 0 0 0 hb2
  rcases hd with ⟨v, ⟨⟨k, k1, k2, -⟩, -⟩, hr⟩ | ⟨-, ⟨f, hr⟩ | ⟨f, hr⟩ | ⟨f, hr⟩⟩
  · exact absurd ⟨k, k1, k2⟩ hx
  · rw [hr, bI_Vl, if_pos rfl, if_pos rfl] at st
    exact ⟨κ, i, c, m, q + 1, by omega, by omega, by omega, hJ, hA, rfl, st⟩
  · exact (show False from f).elim
  · exact absurd (show ∃ k, k < fN c 26 ∧ iN t = iN k from f) hx
theorem chN1 (hi : i + 2 < 512) (hJ : nJ κ i c m) (hA : pA κ a) {one two t : Nat} (h2 : two < 70000) (ht : t ≤ 40) (hT : ¬ t < fN c 26) : lRes3 xs nx (R1 xs nx 10 94 [some (vR 0 (some 0)), some (vR 35 (some 0)), some (vR 45 (some 0)), some (vR 29 (some 0)), some (vR 80 (some 0)), some (vI 1), some (vI (iN one)), some (vI (iN two)), some (vI (iN t)), some (vI 0), some (vI (-1)), some (vI 0), some (vI (m 90 0)), none, none, none, none, none, none, none, none] [vI 0] (c, a, q, J)) i 2 c m a q J := by
  have h26 := hJ.1.2.2.1.1
  have z1 : a 80 1 = iN (fN c 24) := by rw [hA.1.2.1, (nJ_k hJ).1.2.1]
  have h24 := hJ.1.2.1.1
  have hx := nidx h26 ht hT
  have st : R1 xs nx 10 94 [some (vR 0 (some 0)), some (vR 35 (some 0)), some (vR 45 (some 0)), some (vR 29 (some 0)), some (vR 80 (some 0)), some (vI 1), some (vI (iN one)), some (vI (iN two)), some (vI (iN t)), some (vI 0), some (vI (-1)), some (vI 0), some (vI (m 90 0)), none, none, none, none, none, none, none, none] [vI 0] (c, a, q, J) = _ := d_10_94 _ _ _ _ _ _ _ _ _ _
  rw [if_neg (show ¬ (1 : Int32) = 0 by decide), if_pos (show (1 : Int32) = 1 from rfl)] at st
  obtain ⟨κ', c', m', hJ', hd⟩ := do16 (xs := xs) (nx := nx) (a := a) (q := q) (J := J) (by omega) hJ (iN t) 0 0 0 0 0
  rcases hd with ⟨v, ⟨⟨k, w, k1, k2, -⟩, -⟩, hr⟩ | ⟨-, ⟨f, hr⟩ | ⟨f, hr⟩ | ⟨f, hr⟩⟩
  · exact absurd ⟨k, k1, k2⟩ hx
  · rw [hr, bI_Vl, if_pos rfl, if_pos rfl] at st
    exact ⟨κ, i, c, m, q + 1, by omega, by omega, by omega, hJ, hA, rfl, st⟩
  · exact (show False from f).elim
  · exact absurd (show ∃ k, k < fN c 26 ∧ iN t = iN k from f) hx
theorem chN2 (hi : i + 2 < 512) (hJ : nJ κ i c m) (hA : pA κ a) {one two t : Nat} (h2 : two < 70000) (ht : t ≤ 40) (hT : ¬ t < fN c 26) : lRes3 xs nx (R1 xs nx 10 94 [some (vR 0 (some 0)), some (vR 35 (some 0)), some (vR 45 (some 0)), some (vR 29 (some 0)), some (vR 80 (some 0)), some (vI 2), some (vI (iN one)), some (vI (iN two)), some (vI (iN t)), some (vI 0), some (vI (-1)), some (vI 0), some (vI (m 90 0)), none, none, none, none, none, none, none, none] [vI 0] (c, a, q, J)) i 2 c m a q J := by
  have h26 := hJ.1.2.2.1.1
  have z1 : a 80 1 = iN (fN c 24) := by rw [hA.1.2.1, (nJ_k hJ).1.2.1]
  have h24 := hJ.1.2.1.1
  have hx := nidx h26 ht hT
  have e21 : iN two - iN two / (21 : Int32) * 21 = iN (two % 21) := mdN 21 (by omega) (by omega)
  have st : R1 xs nx 10 94 [some (vR 0 (some 0)), some (vR 35 (some 0)), some (vR 45 (some 0)), some (vR 29 (some 0)), some (vR 80 (some 0)), some (vI 2), some (vI (iN one)), some (vI (iN two)), some (vI (iN t)), some (vI 0), some (vI (-1)), some (vI 0), some (vI (m 90 0)), none, none, none, none, none, none, none, none] [vI 0] (c, a, q, J) = _ := d_10_94 _ _ _ _ _ _ _ _ _ _
  rw [if_neg (show ¬ (2 : Int32) = 0 by decide), if_neg (show ¬ (2 : Int32) = 1 by decide), if_pos (show (2 : Int32) = 2 from rfl), e21] at st
  obtain ⟨κ', c', m', hJ', hd⟩ := do17 (xs := xs) (nx := nx) (a := a) (q := q) (J := J) (by omega) hJ (iN t) (iN (two % 21)) 0 0 0 0
  rcases hd with ⟨v, ⟨⟨k, w, k1, k2, -⟩, -⟩, hr⟩ | ⟨-, ⟨f, hr⟩ | ⟨f, hr⟩ | ⟨f, hr⟩⟩
  · exact absurd ⟨k, k1, k2⟩ hx
  · rw [hr, bI_Vl, if_pos rfl, d_10_343, if_pos rfl] at st
    exact ⟨κ, i, c, m, q + 1, by omega, by omega, by omega, hJ, hA, rfl, st⟩
  · exact (show False from f).elim
  · obtain ⟨k, k1, k2, -⟩ : ∃ k, k < fN c 26 ∧ iN t = iN k ∧ _ := f.1
    exact absurd ⟨k, k1, k2⟩ hx
theorem chN3 (hi : i + 2 < 512) (hJ : nJ κ i c m) (hA : pA κ a) {one two t : Nat} (h2 : two < 70000) (ht : t ≤ 40) (hT : ¬ t < fN c 26) : lRes3 xs nx (R1 xs nx 10 94 [some (vR 0 (some 0)), some (vR 35 (some 0)), some (vR 45 (some 0)), some (vR 29 (some 0)), some (vR 80 (some 0)), some (vI 3), some (vI (iN one)), some (vI (iN two)), some (vI (iN t)), some (vI 0), some (vI (-1)), some (vI 0), some (vI (m 90 0)), none, none, none, none, none, none, none, none] [vI 0] (c, a, q, J)) i 2 c m a q J := by
  have h26 := hJ.1.2.2.1.1
  have z1 : a 80 1 = iN (fN c 24) := by rw [hA.1.2.1, (nJ_k hJ).1.2.1]
  have h24 := hJ.1.2.1.1
  have hx := nidx h26 ht hT
  have st : R1 xs nx 10 94 [some (vR 0 (some 0)), some (vR 35 (some 0)), some (vR 45 (some 0)), some (vR 29 (some 0)), some (vR 80 (some 0)), some (vI 3), some (vI (iN one)), some (vI (iN two)), some (vI (iN t)), some (vI 0), some (vI (-1)), some (vI 0), some (vI (m 90 0)), none, none, none, none, none, none, none, none] [vI 0] (c, a, q, J) = _ := d_10_94 _ _ _ _ _ _ _ _ _ _
  rw [if_neg (show ¬ (3 : Int32) = 0 by decide), if_neg (show ¬ (3 : Int32) = 1 by decide), if_neg (show ¬ (3 : Int32) = 2 by decide), if_pos (show (3 : Int32) = 3 from rfl), if_pos rfl, d_10_472, d_10_473] at st
  obtain ⟨κ', c', m', hJ', hd⟩ := do18 (xs := xs) (nx := nx) (a := a) (q := q) (J := J) (by omega) hJ (iN t) 0 0 0 0 0
  rcases hd with ⟨v, ⟨⟨k, k1, k2, -⟩, -⟩, hr⟩ | ⟨-, ⟨f, hr⟩ | ⟨f, hr⟩ | ⟨f, hr⟩⟩
  · exact absurd ⟨k, k1, k2⟩ hx
  · rw [hr, bI_Vl, if_pos rfl, if_pos rfl] at st
    exact ⟨κ, i, c, m, q + 1, by omega, by omega, by omega, hJ, hA, rfl, st⟩
  · exact (show False from f).elim
  · obtain ⟨k, k1, k2, -⟩ : ∃ k, k < fN c 26 ∧ iN t = iN k ∧ _ := f
    exact absurd ⟨k, k1, k2⟩ hx
theorem chN4 (hi : i + 2 < 512) (hJ : nJ κ i c m) (hA : pA κ a) {one two t : Nat} (h2 : two < 70000) (ht : t ≤ 40) (hT : ¬ t < fN c 26) : lRes3 xs nx (R1 xs nx 10 94 [some (vR 0 (some 0)), some (vR 35 (some 0)), some (vR 45 (some 0)), some (vR 29 (some 0)), some (vR 80 (some 0)), some (vI 4), some (vI (iN one)), some (vI (iN two)), some (vI (iN t)), some (vI 0), some (vI (-1)), some (vI 0), some (vI (m 90 0)), none, none, none, none, none, none, none, none] [vI 0] (c, a, q, J)) i 2 c m a q J := by
  have h26 := hJ.1.2.2.1.1
  have z1 : a 80 1 = iN (fN c 24) := by rw [hA.1.2.1, (nJ_k hJ).1.2.1]
  have h24 := hJ.1.2.1.1
  have hx := nidx h26 ht hT
  have st : R1 xs nx 10 94 [some (vR 0 (some 0)), some (vR 35 (some 0)), some (vR 45 (some 0)), some (vR 29 (some 0)), some (vR 80 (some 0)), some (vI 4), some (vI (iN one)), some (vI (iN two)), some (vI (iN t)), some (vI 0), some (vI (-1)), some (vI 0), some (vI (m 90 0)), none, none, none, none, none, none, none, none] [vI 0] (c, a, q, J) = _ := d_10_94 _ _ _ _ _ _ _ _ _ _
  rw [if_neg (show ¬ (4 : Int32) = 0 by decide), if_neg (show ¬ (4 : Int32) = 1 by decide), if_neg (show ¬ (4 : Int32) = 2 by decide), if_neg (show ¬ (4 : Int32) = 3 by decide), if_pos (show (4 : Int32) = 4 from rfl)] at st
  obtain ⟨κ', c', m', hJ', hd⟩ := do19 (xs := xs) (nx := nx) (a := a) (q := q) (J := J) (by omega) hJ (iN t) 0 0 0 0 0
  rcases hd with ⟨v, ⟨⟨k, k1, k2, -⟩, -⟩, hr⟩ | ⟨-, ⟨f, hr⟩ | ⟨f, hr⟩ | ⟨f, hr⟩⟩
  · exact absurd ⟨k, k1, k2⟩ hx
  · rw [hr, bI_Vl, if_pos rfl, if_pos rfl] at st
    exact ⟨κ, i, c, m, q + 1, by omega, by omega, by omega, hJ, hA, rfl, st⟩
  · exact (show False from f).elim
  · obtain ⟨k, k1, k2, -⟩ : ∃ k, k < fN c 26 ∧ iN t = iN k ∧ _ := f
    exact absurd ⟨k, k1, k2⟩ hx
theorem chN5 (hi : i + 2 < 512) (hJ : nJ κ i c m) (hA : pA κ a) {one two t : Nat} (h2 : two < 70000) (ht : t ≤ 40) (hT : ¬ t < fN c 26) : lRes3 xs nx (R1 xs nx 10 94 [some (vR 0 (some 0)), some (vR 35 (some 0)), some (vR 45 (some 0)), some (vR 29 (some 0)), some (vR 80 (some 0)), some (vI 5), some (vI (iN one)), some (vI (iN two)), some (vI (iN t)), some (vI 0), some (vI (-1)), some (vI 0), some (vI (m 90 0)), none, none, none, none, none, none, none, none] [vI 0] (c, a, q, J)) i 2 c m a q J := by
  have h26 := hJ.1.2.2.1.1
  have z1 : a 80 1 = iN (fN c 24) := by rw [hA.1.2.1, (nJ_k hJ).1.2.1]
  have h24 := hJ.1.2.1.1
  have hx := nidx h26 ht hT
  have e6 : iN two - iN two / (6 : Int32) * 6 = iN (two % 6) := mdN 6 (by omega) (by omega)
  have st : R1 xs nx 10 94 [some (vR 0 (some 0)), some (vR 35 (some 0)), some (vR 45 (some 0)), some (vR 29 (some 0)), some (vR 80 (some 0)), some (vI 5), some (vI (iN one)), some (vI (iN two)), some (vI (iN t)), some (vI 0), some (vI (-1)), some (vI 0), some (vI (m 90 0)), none, none, none, none, none, none, none, none] [vI 0] (c, a, q, J) = _ := d_10_94 _ _ _ _ _ _ _ _ _ _
  rw [if_neg (show ¬ (5 : Int32) = 0 by decide), if_neg (show ¬ (5 : Int32) = 1 by decide), if_neg (show ¬ (5 : Int32) = 2 by decide), if_neg (show ¬ (5 : Int32) = 3 by decide), if_neg (show ¬ (5 : Int32) = 4 by decide), if_pos (show (5 : Int32) = 5 from rfl), e6] at st
  obtain ⟨κ', c', m', hJ', hd⟩ := do20 (xs := xs) (nx := nx) (a := a) (q := q) (J := J) (by omega) hJ (iN t) (iN (two % 6)) 0 0 0 0
  rcases hd with ⟨v, ⟨⟨k, d, k1, k2, -⟩, -⟩, hr⟩ | ⟨-, ⟨f, hr⟩ | ⟨f, hr⟩ | ⟨f, hr⟩⟩
  · exact absurd ⟨k, k1, k2⟩ hx
  · rw [hr, bI_Vl, if_pos rfl, d_10_727, if_pos rfl] at st
    exact ⟨κ, i, c, m, q + 1, by omega, by omega, by omega, hJ, hA, rfl, st⟩
  · exact (show False from f).elim
  · obtain ⟨k, k1, k2, -⟩ : ∃ k, k < fN c 26 ∧ iN t = iN k ∧ _ := f.1
    exact absurd ⟨k, k1, k2⟩ hx
theorem chN7 (hi : i + 2 < 512) (hJ : nJ κ i c m) (hA : pA κ a) {one two t : Nat} (h2 : two < 70000) (ht : t ≤ 40) (hT : ¬ t < fN c 26) : lRes3 xs nx (R1 xs nx 10 94 [some (vR 0 (some 0)), some (vR 35 (some 0)), some (vR 45 (some 0)), some (vR 29 (some 0)), some (vR 80 (some 0)), some (vI 7), some (vI (iN one)), some (vI (iN two)), some (vI (iN t)), some (vI 0), some (vI (-1)), some (vI 0), some (vI (m 90 0)), none, none, none, none, none, none, none, none] [vI 0] (c, a, q, J)) i 2 c m a q J := by
  have h26 := hJ.1.2.2.1.1
  have z1 : a 80 1 = iN (fN c 24) := by rw [hA.1.2.1, (nJ_k hJ).1.2.1]
  have h24 := hJ.1.2.1.1
  have hx := nidx h26 ht hT
  have e5 : iN two - iN two / (5 : Int32) * 5 = iN (two % 5) := mdN 5 (by omega) (by omega)
  have e53 : iN (two % 5) - iN (two % 5) / (3 : Int32) * 3 = iN (two % 5 % 3) := mdN 3 (by omega) (by omega)
  have d5 : iN two / (5 : Int32) = iN (two / 5) := iN_div (b := 5) (by omega) (by omega)
  have e2 : iN (two / 5) - iN (two / 5) / (2 : Int32) * 2 = iN (two / 5 % 2) := mdN 2 (by omega) (by omega)
  have hb2 : iN (two / 5 % 2) = 0 ∨ iN (two / 5 % 2) = 1 := by
    rcases Nat.mod_two_eq_zero_or_one (two / 5) with h | h
    · exact Or.inl (by rw [h]; rfl)
    · exact Or.inr (by rw [h]; rfl)
  have st : R1 xs nx 10 94 [some (vR 0 (some 0)), some (vR 35 (some 0)), some (vR 45 (some 0)), some (vR 29 (some 0)), some (vR 80 (some 0)), some (vI 7), some (vI (iN one)), some (vI (iN two)), some (vI (iN t)), some (vI 0), some (vI (-1)), some (vI 0), some (vI (m 90 0)), none, none, none, none, none, none, none, none] [vI 0] (c, a, q, J) = _ := d_10_94 _ _ _ _ _ _ _ _ _ _
  rw [if_neg (show ¬ (7 : Int32) = 0 by decide), if_neg (show ¬ (7 : Int32) = 1 by decide), if_neg (show ¬ (7 : Int32) = 2 by decide), if_neg (show ¬ (7 : Int32) = 3 by decide), if_neg (show ¬ (7 : Int32) = 4 by decide), if_neg (show ¬ (7 : Int32) = 5 by decide), if_neg (show ¬ (7 : Int32) = 6 by decide), if_pos (show (7 : Int32) = 7 from rfl), e5, e53, if_pos rfl, d_10_1037, d5, e2] at st
  obtain ⟨κ', c', m', hJ', hd⟩ := do22 (xs := xs) (nx := nx) (a := a) (q := q) (J := J) (by omega) hJ (iN t) (iN (two % 5 % 3)) (iN (two / 5 % 2)) 0 0 0 hb2
  rcases hd with ⟨v, ⟨⟨k, w, k1, k2, -⟩, -⟩, hr⟩ | ⟨-, ⟨f, hr⟩ | ⟨f, hr⟩ | ⟨f, hr⟩⟩
  · exact absurd ⟨k, k1, k2⟩ hx
  · rw [hr, bI_Vl, if_pos rfl, if_pos rfl] at st
    exact ⟨κ, i, c, m, q + 1, by omega, by omega, by omega, hJ, hA, rfl, st⟩
  · exact absurd (show ∃ k, k < fN c 26 ∧ iN t = iN k from f.1) hx
  · exact absurd (show ∃ k, k < fN c 26 ∧ iN t = iN k from f.1) hx
/-! there is such a parcel -/
theorem chY0 (hi : i + 2 < 512) (hJ : nJ κ i c m) (hA : pA κ a) {one two t u : Nat} {bd : Int32} (h1 : one < 60000) (h2 : two < 70000) (hT : t < fN c 26) (hu : u < 4) (e49 : m 49 t = iN u) (hbd : (bd = 1 ∧ BDp m t) ∨ (bd = 0 ∧ ¬ BDp m t)) : lRes3 xs nx (R1 xs nx 10 94 [some (vR 0 (some 0)), some (vR 35 (some 0)), some (vR 45 (some 0)), some (vR 29 (some 0)), some (vR 80 (some 0)), some (vI 0), some (vI (iN one)), some (vI (iN two)), some (vI (iN t)), some (vI 1), some (vI (m 66 t)), some (vI (iN u)), some (vI (m 90 u)), none, none, none, none, none, none, none, none] [vI bd] (c, a, q, J)) i 2 c m a q J := by
  have h26 := hJ.1.2.2.1.1
  have h24 := hJ.1.2.1.1
  have z1 : a 80 1 = iN (fN c 24) := by rw [hA.1.2.1, (nJ_k hJ).1.2.1]
  have hin : ∃ k, k < fN c 26 ∧ iN t = iN k := ⟨t, hT, rfl⟩
  have et : ∀ {k}, k < fN c 26 → iN t = iN k → t = k := fun h z => (iN_inj (by omega) (by omega)).mp z
  have st : R1 xs nx 10 94 [some (vR 0 (some 0)), some (vR 35 (some 0)), some (vR 45 (some 0)), some (vR 29 (some 0)), some (vR 80 (some 0)), some (vI 0), some (vI (iN one)), some (vI (iN two)), some (vI (iN t)), some (vI 1), some (vI (m 66 t)), some (vI (iN u)), some (vI (m 90 u)), none, none, none, none, none, none, none, none] [vI bd] (c, a, q, J) = _ := d_10_94 _ _ _ _ _ _ _ _ _ _
  have e2 : iN two - iN two / (2 : Int32) * 2 = iN (two % 2) := mdN 2 (by omega) (by omega)
  have hb2 : iN (two % 2) = 0 ∨ iN (two % 2) = 1 := by
    rcases Nat.mod_two_eq_zero_or_one two with h | h
    · exact Or.inl (by rw [h]; rfl)
    · exact Or.inr (by rw [h]; rfl)
  rw [if_pos (show (0 : Int32) = 0 from rfl), e2] at st
  obtain ⟨κ', c', m', hJ', hd⟩ := do15 (xs := xs) (nx := nx) (a := a) (q := q) (J := J) (by omega) hJ (iN t) (iN (two % 2)) 0 0 0 0 hb2
  rcases hd with ⟨v, ⟨⟨k, k1, k2, p7, p8, -, p60, pv⟩, pk, p4⟩, hr⟩ | ⟨-, ⟨f, hr⟩ | ⟨f, hr⟩ | ⟨f, hr⟩⟩
  · have ek := et k1 k2
    subst ek
    have hN := n26_of hJ hJ' (by rw [pk])
    have hT' : t < fN c' 26 := by omega
    have hD := tgD5 hJ' hT'
    obtain ⟨-, n0, hn0, en0⟩ := kind8 hJ hT
    have hw : m 66 t < 7 := by
      rw [en0] at p7 p8 ⊢
      refine (iN_lt (b := 7) (by omega) (by omega)).mpr ?_
      rcases Nat.lt_or_ge n0 7 with z | z
      · exact z
      · obtain rfl | rfl : n0 = 7 ∨ n0 = 8 := by omega
        · exact absurd rfl p7
        · exact absurd rfl p8
    rw [hr, bI_Vl, if_neg n10, if_neg (show ¬ v = -1000000 by rw [pv]; exact nneg (by omega) (by decide)), q146_7 _ hJ' hT', bI_Vl, if_pos pv, if_pos hw] at st
    obtain ⟨κ2, c2, m2, hJ2, hd2⟩ := do15 (xs := xs) (nx := nx) (a := a) (q := q) (J := J) (by omega) hJ' (iN t) 0 0 0 0 0 (Or.inl rfl)
    rcases hd2 with ⟨v2, ⟨⟨k, k1', k2', -, -, g, -⟩, -⟩, -⟩ | ⟨-, ⟨f, hr2⟩ | ⟨f, hr2⟩ | ⟨f, hr2⟩⟩
    · have := (iN_inj (by omega) (by omega)).mp k2'
      rw [← this] at g
      exact absurd p60 g
    · exact absurd ⟨t, hT', rfl⟩ (show ¬ ∃ k, k < fN c' 26 ∧ iN t = iN k from f)
    · exact (show False from f).elim
    · rw [hr2, bI_Vl, if_pos rfl] at st
      exact ⟨κ', i + 1, c', m', q + 1, by omega, by omega, by omega, hJ', pA_κ hA (by rw [pk]), p4, st⟩
  · exact absurd hin (show ¬ ∃ k, k < fN c 26 ∧ iN t = iN k from f)
  · exact (show False from f).elim
  · rw [hr, bI_Vl, if_neg n10, if_pos rfl] at st
    exact ⟨κ, i, c, m, q + 1, by omega, by omega, by omega, hJ, hA, rfl, st⟩
theorem chY1 (hi : i + 2 < 512) (hJ : nJ κ i c m) (hA : pA κ a) {one two t u : Nat} {bd : Int32} (h1 : one < 60000) (h2 : two < 70000) (hT : t < fN c 26) (hu : u < 4) (e49 : m 49 t = iN u) (hbd : (bd = 1 ∧ BDp m t) ∨ (bd = 0 ∧ ¬ BDp m t)) : lRes3 xs nx (R1 xs nx 10 94 [some (vR 0 (some 0)), some (vR 35 (some 0)), some (vR 45 (some 0)), some (vR 29 (some 0)), some (vR 80 (some 0)), some (vI 1), some (vI (iN one)), some (vI (iN two)), some (vI (iN t)), some (vI 1), some (vI (m 66 t)), some (vI (iN u)), some (vI (m 90 u)), none, none, none, none, none, none, none, none] [vI bd] (c, a, q, J)) i 2 c m a q J := by
  have h26 := hJ.1.2.2.1.1
  have h24 := hJ.1.2.1.1
  have z1 : a 80 1 = iN (fN c 24) := by rw [hA.1.2.1, (nJ_k hJ).1.2.1]
  have hin : ∃ k, k < fN c 26 ∧ iN t = iN k := ⟨t, hT, rfl⟩
  have et : ∀ {k}, k < fN c 26 → iN t = iN k → t = k := fun h z => (iN_inj (by omega) (by omega)).mp z
  have st : R1 xs nx 10 94 [some (vR 0 (some 0)), some (vR 35 (some 0)), some (vR 45 (some 0)), some (vR 29 (some 0)), some (vR 80 (some 0)), some (vI 1), some (vI (iN one)), some (vI (iN two)), some (vI (iN t)), some (vI 1), some (vI (m 66 t)), some (vI (iN u)), some (vI (m 90 u)), none, none, none, none, none, none, none, none] [vI bd] (c, a, q, J) = _ := d_10_94 _ _ _ _ _ _ _ _ _ _
  rw [if_neg (show ¬ (1 : Int32) = 0 by decide), if_pos (show (1 : Int32) = 1 from rfl)] at st
  obtain ⟨κ', c', m', hJ', hd⟩ := do16 (xs := xs) (nx := nx) (a := a) (q := q) (J := J) (by omega) hJ (iN t) 0 0 0 0 0
  rcases hd with ⟨v, ⟨⟨k, w, k1, k2, w1, w2, p64, q64, p90, ⟨n, n1, n2, n3⟩⟩, pk, p4⟩, hr⟩ | ⟨-, ⟨f, hr⟩ | ⟨f, hr⟩ | ⟨f, hr⟩⟩
  · have ek := et k1 k2
    subst ek
    have ew : u = w := (iN_inj (by omega) (by omega)).mp (e49.symm.trans w2)
    subst ew
    have hN := n26_of hJ hJ' (by rw [pk])
    have hT' : t < fN c' 26 := by omega
    rw [hr, bI_Vl, if_neg n10, if_neg (show ¬ v = -1000000 by rw [n3]; exact nneg (by omega) (by decide)), if_pos (show (0 : Int32) < v by rw [n3]; exact (iN_lt (a := 0) (by omega) (by omega)).mpr n1), q154 _ hJ' hu, bI_Vl, if_pos p90] at st
    obtain ⟨κ2, c2, m2, hJ2, hd2⟩ := do16 (xs := xs) (nx := nx) (a := a) (q := q) (J := J) (by omega) hJ' (iN t) 0 0 0 0 0
    rcases hd2 with ⟨v2, ⟨⟨k, w, k1', k2', -, -, g, -⟩, -⟩, -⟩ | ⟨-, ⟨f, hr2⟩ | ⟨f, hr2⟩ | ⟨f, hr2⟩⟩
    · have := (iN_inj (by omega) (by omega)).mp k2'
      rw [← this, q64] at g
      exact absurd g (by decide)
    · exact absurd ⟨t, hT', rfl⟩ (show ¬ ∃ k, k < fN c' 26 ∧ iN t = iN k from f)
    · exact (show False from f).elim
    · rw [hr2, bI_Vl, if_pos rfl] at st
      exact ⟨κ', i + 1, c', m', q + 1, by omega, by omega, by omega, hJ', pA_κ hA (by rw [pk]), p4, st⟩
  · exact absurd hin (show ¬ ∃ k, k < fN c 26 ∧ iN t = iN k from f)
  · exact (show False from f).elim
  · rw [hr, bI_Vl, if_neg n10, if_pos rfl, q154 _ hJ hu, bI_Vl, if_pos rfl] at st
    exact ⟨κ, i, c, m, q + 1, by omega, by omega, by omega, hJ, hA, rfl, st⟩
theorem chY2 (hi : i + 2 < 512) (hJ : nJ κ i c m) (hA : pA κ a) {one two t u : Nat} {bd : Int32} (h1 : one < 60000) (h2 : two < 70000) (hT : t < fN c 26) (hu : u < 4) (e49 : m 49 t = iN u) (hbd : (bd = 1 ∧ BDp m t) ∨ (bd = 0 ∧ ¬ BDp m t)) : lRes3 xs nx (R1 xs nx 10 94 [some (vR 0 (some 0)), some (vR 35 (some 0)), some (vR 45 (some 0)), some (vR 29 (some 0)), some (vR 80 (some 0)), some (vI 2), some (vI (iN one)), some (vI (iN two)), some (vI (iN t)), some (vI 1), some (vI (m 66 t)), some (vI (iN u)), some (vI (m 90 u)), none, none, none, none, none, none, none, none] [vI bd] (c, a, q, J)) i 2 c m a q J := by
  have h26 := hJ.1.2.2.1.1
  have h24 := hJ.1.2.1.1
  have z1 : a 80 1 = iN (fN c 24) := by rw [hA.1.2.1, (nJ_k hJ).1.2.1]
  have hin : ∃ k, k < fN c 26 ∧ iN t = iN k := ⟨t, hT, rfl⟩
  have et : ∀ {k}, k < fN c 26 → iN t = iN k → t = k := fun h z => (iN_inj (by omega) (by omega)).mp z
  have st : R1 xs nx 10 94 [some (vR 0 (some 0)), some (vR 35 (some 0)), some (vR 45 (some 0)), some (vR 29 (some 0)), some (vR 80 (some 0)), some (vI 2), some (vI (iN one)), some (vI (iN two)), some (vI (iN t)), some (vI 1), some (vI (m 66 t)), some (vI (iN u)), some (vI (m 90 u)), none, none, none, none, none, none, none, none] [vI bd] (c, a, q, J) = _ := d_10_94 _ _ _ _ _ _ _ _ _ _
  have e21 : iN two - iN two / (21 : Int32) * 21 = iN (two % 21) := mdN 21 (by omega) (by omega)
  rw [if_neg (show ¬ (2 : Int32) = 0 by decide), if_neg (show ¬ (2 : Int32) = 1 by decide), if_pos (show (2 : Int32) = 2 from rfl), e21] at st
  obtain ⟨κ', c', m', hJ', hd⟩ := do17 (xs := xs) (nx := nx) (a := a) (q := q) (J := J) (by omega) hJ (iN t) (iN (two % 21)) 0 0 0 0
  rcases hd with ⟨v, ⟨⟨k, o, k1, k2, o1, o2, b4, b5, b7, b8, p52, p63, p65, p1, p3, pv⟩, pk, p4⟩, hr⟩ | ⟨-, ⟨f, hr⟩ | ⟨f, hr⟩ | ⟨f, hr⟩⟩
  · have ek := et k1 k2
    subst ek
    have eo : two % 21 = o := (iN_inj (by omega) (by omega)).mp o2
    have hN := n26_of hJ hJ' (by rw [pk])
    have hT' : t < fN c' 26 := by omega
    have eb : bd = 0 := by
      rcases hbd with ⟨-, z⟩ | ⟨z, -⟩
      · rcases z with z | z | z | z
        · exact absurd z b4
        · exact absurd z b5
        · exact absurd z b7
        · exact absurd z b8
      · exact z
    have hx : fX c' 26 t 10 = o := by
      obtain ⟨-, -, -, ⟨y1, y2⟩, -⟩ := hJ'.2.2.2.2.2.1 t hT'
      have h24' := hJ'.1.2.1.1
      exact (iN_inj (by omega) (by omega)).mp (y2.symm.trans (p52.trans o2))
    have hX : fX c' 24 = fX c 24 := by
      obtain ⟨-, -, -, k5, -⟩ := nJ_k hJ'
      obtain ⟨-, -, -, k5', -⟩ := nJ_k hJ
      rw [← k5, pk, k5']
    have hg : tgD c' m' t = fX c 24 o 0 := by
      unfold tgD
      rw [if_pos p63, hx, hX]
    have ha : a 45 (two % 21) = v := by
      have := hA.2.2.1 o (by rw [(nJ_k hJ).1.2.1]; exact o1)
      obtain ⟨-, -, -, k5', -⟩ := nJ_k hJ
      rw [k5'] at this
      rw [eo, this, pv, hg]
    have hon : (iN (two % 21)).toNatClampNeg = two % 21 := i32_nat (by omega)
    rw [hr, bI_Vl, if_neg n10, if_pos i61] at st
    dsimp only at st
    simp only [t61, z1] at st
    rw [if_pos ((iN_lt (by omega) (by omega)).mpr (show two % 21 < fN c 24 by omega)), if_pos eb, if_pos (iN_in (show two % 21 < 20 by omega) (by decide))] at st
    simp only [hon, ha] at st
    rw [if_true, q146_7 _ hJ' hT', bI_Vl, if_pos pv.symm, q146_3 _ hJ' hT', bI_Vl, if_pos p63, q146_2 _ hJ' hT', bI_Vl, if_pos p65, q144 _ hJ' hT', bI_Vl, if_neg p1, q144 _ hJ' hT', bI_Vl, if_neg p3] at st
    exact ⟨κ', i + 1, c', m', q, by omega, by omega, by omega, hJ', pA_κ hA (by rw [pk]), p4, st⟩
  · have f : (¬ ∃ k, k < fN c 26 ∧ iN t = iN k) ∨ ¬ ∃ k, k < fN c 24 ∧ iN (two % 21) = iN k := f
    have ho : ¬ two % 21 < fN c 24 := fun z => f.elim (fun w => w hin) (fun w => w ⟨_, z, rfl⟩)
    rw [hr, bI_Vl, if_neg n10, if_pos i61] at st
    dsimp only at st
    simp only [t61, z1] at st
    rw [if_neg (fun z => ho ((iN_lt (by omega) (by omega)).mp z)), d_10_343, if_pos rfl] at st
    exact ⟨κ, i, c, m, q + 1, by omega, by omega, by omega, hJ, hA, rfl, st⟩
  · exact (show False from f).elim
  · obtain ⟨⟨k, k1, k2, hk⟩, o, o1, o2⟩ : (∃ k, k < fN c 26 ∧ iN t = iN k ∧ BDp m k) ∧ ∃ k, k < fN c 24 ∧ iN (two % 21) = iN k := f
    have ek := et k1 k2
    subst ek
    have eo : two % 21 = o := (iN_inj (by omega) (by omega)).mp o2
    have eb : ¬ bd = 0 := by
      rcases hbd with ⟨z, -⟩ | ⟨-, z⟩
      · rw [z]; decide
      · exact absurd hk z
    rw [hr, bI_Vl, if_neg n10, if_pos i61] at st
    dsimp only at st
    simp only [t61, z1] at st
    rw [if_pos ((iN_lt (by omega) (by omega)).mpr (show two % 21 < fN c 24 by omega)), if_neg eb, if_true] at st
    exact ⟨κ, i, c, m, q + 1, by omega, by omega, by omega, hJ, hA, rfl, st⟩
theorem chY3 (hi : i + 2 < 512) (hJ : nJ κ i c m) (hA : pA κ a) {one two t u : Nat} {bd : Int32} (h1 : one < 60000) (h2 : two < 70000) (hT : t < fN c 26) (hu : u < 4) (e49 : m 49 t = iN u) (hbd : (bd = 1 ∧ BDp m t) ∨ (bd = 0 ∧ ¬ BDp m t)) : lRes3 xs nx (R1 xs nx 10 94 [some (vR 0 (some 0)), some (vR 35 (some 0)), some (vR 45 (some 0)), some (vR 29 (some 0)), some (vR 80 (some 0)), some (vI 3), some (vI (iN one)), some (vI (iN two)), some (vI (iN t)), some (vI 1), some (vI (m 66 t)), some (vI (iN u)), some (vI (m 90 u)), none, none, none, none, none, none, none, none] [vI bd] (c, a, q, J)) i 2 c m a q J := by
  have h26 := hJ.1.2.2.1.1
  have h24 := hJ.1.2.1.1
  have z1 : a 80 1 = iN (fN c 24) := by rw [hA.1.2.1, (nJ_k hJ).1.2.1]
  have hin : ∃ k, k < fN c 26 ∧ iN t = iN k := ⟨t, hT, rfl⟩
  have et : ∀ {k}, k < fN c 26 → iN t = iN k → t = k := fun h z => (iN_inj (by omega) (by omega)).mp z
  have st : R1 xs nx 10 94 [some (vR 0 (some 0)), some (vR 35 (some 0)), some (vR 45 (some 0)), some (vR 29 (some 0)), some (vR 80 (some 0)), some (vI 3), some (vI (iN one)), some (vI (iN two)), some (vI (iN t)), some (vI 1), some (vI (m 66 t)), some (vI (iN u)), some (vI (m 90 u)), none, none, none, none, none, none, none, none] [vI bd] (c, a, q, J) = _ := d_10_94 _ _ _ _ _ _ _ _ _ _
  obtain ⟨b63, hb63, st⟩ : ∃ b : Int32, ((b = 1 ∧ m 63 t = 1) ∨ (b = 0 ∧ m 63 t = 0)) ∧ R1 xs nx 10 94 [some (vR 0 (some 0)), some (vR 35 (some 0)), some (vR 45 (some 0)), some (vR 29 (some 0)), some (vR 80 (some 0)), some (vI 3), some (vI (iN one)), some (vI (iN two)), some (vI (iN t)), some (vI 1), some (vI (m 66 t)), some (vI (iN u)), some (vI (m 90 u)), none, none, none, none, none, none, none, none] [vI bd] (c, a, q, J) = R1 xs nx 10 473 [some (vR 0 (some 0)), some (vR 35 (some 0)), some (vR 45 (some 0)), some (vR 29 (some 0)), some (vR 80 (some 0)), some (vI 3), some (vI (iN one)), some (vI (iN two)), some (vI (iN t)), some (vI 1), some (vI (m 66 t)), some (vI (iN u)), some (vI (m 90 u)), some (vI bd), none, none, none, none, none, none, none] [vI b] (c, a, q, J) := by
    rw [if_neg (show ¬ (3 : Int32) = 0 by decide), if_neg (show ¬ (3 : Int32) = 1 by decide), if_neg (show ¬ (3 : Int32) = 2 by decide), if_pos (show (3 : Int32) = 3 from rfl), if_neg n10, q146_3 _ hJ hT, bI_Vl] at st
    obtain ⟨-, -, -, -, -, -, -, -, -, -, -, -, -, -, -, -, ⟨-, y⟩, -⟩ := hJ.2.2.2.2.2.1 t hT
    rcases y with y | y
    · rw [if_neg (show ¬ m 63 t = 1 by rw [y]; decide), d_10_472] at st
      exact ⟨0, Or.inr ⟨rfl, y⟩, st⟩
    · rw [if_pos y] at st
      exact ⟨1, Or.inl ⟨rfl, y⟩, st⟩
  rw [d_10_473] at st
  obtain ⟨κ', c', m', hJ', hd⟩ := do18 (xs := xs) (nx := nx) (a := a) (q := q) (J := J) (by omega) hJ (iN t) 0 0 0 0 0
  rcases hd with ⟨v, ⟨⟨k, k1, k2, b63', b4, b5, b7, b8, p63, p65, p1, p3, pv⟩, pk, p4⟩, hr⟩ | ⟨-, ⟨f, hr⟩ | ⟨f, hr⟩ | ⟨f, hr⟩⟩
  · have ek := et k1 k2
    subst ek
    have hN := n26_of hJ hJ' (by rw [pk])
    have hT' : t < fN c' 26 := by omega
    have eb : bd = 0 := by
      rcases hbd with ⟨-, z⟩ | ⟨z, -⟩
      · rcases z with z | z | z | z
        · exact absurd z b4
        · exact absurd z b5
        · exact absurd z b7
        · exact absurd z b8
      · exact z
    have e63 : b63 = 0 := by
      rcases hb63 with ⟨-, z⟩ | ⟨z, -⟩
      · exact absurd (z.symm.trans b63') (by decide)
      · exact z
    rw [hr, bI_Vl, if_neg n10, if_pos e63, if_pos eb, q146_7 _ hJ' hT', bI_Vl, if_pos pv, q146_3 _ hJ' hT', bI_Vl, if_pos p63, q146_2 _ hJ' hT', bI_Vl, if_pos p65, q144 _ hJ' hT', bI_Vl, if_neg p1, q144 _ hJ' hT', bI_Vl, if_neg p3] at st
    exact ⟨κ', i + 1, c', m', q, by omega, by omega, by omega, hJ', pA_κ hA (by rw [pk]), p4, st⟩
  · exact absurd hin (show ¬ ∃ k, k < fN c 26 ∧ iN t = iN k from f)
  · exact (show False from f).elim
  · obtain ⟨k, k1, k2, hk⟩ : ∃ k, k < fN c 26 ∧ iN t = iN k ∧ (¬ m 63 k = 0 ∨ BDp m k) := f
    have ek := et k1 k2
    subst ek
    rw [hr, bI_Vl, if_neg n10] at st
    have fin : R1 xs nx 10 94 [some (vR 0 (some 0)), some (vR 35 (some 0)), some (vR 45 (some 0)), some (vR 29 (some 0)), some (vR 80 (some 0)), some (vI 3), some (vI (iN one)), some (vI (iN two)), some (vI (iN t)), some (vI 1), some (vI (m 66 t)), some (vI (iN u)), some (vI (m 90 u)), none, none, none, none, none, none, none, none] [vI bd] (c, a, q, J) = nVl 1 c (a, q + 1, J) := by
      rcases hb63 with ⟨z, -⟩ | ⟨z, z2⟩
      · rw [if_neg (show ¬ b63 = 0 by rw [z]; decide), d_10_520, if_pos rfl] at st
        exact st
      · have eb : ¬ bd = 0 := by
          rcases hbd with ⟨w, -⟩ | ⟨-, w⟩
          · rw [w]; decide
          · rcases hk with y | y
            · exact absurd z2 y
            · exact absurd y w
        rw [if_pos z, if_neg eb, d_10_520, if_pos rfl] at st
        exact st
    exact ⟨κ, i, c, m, q + 1, by omega, by omega, by omega, hJ, hA, rfl, fin⟩
theorem chY4 (hi : i + 2 < 512) (hJ : nJ κ i c m) (hA : pA κ a) {one two t u : Nat} {bd : Int32} (h1 : one < 60000) (h2 : two < 70000) (hT : t < fN c 26) (hu : u < 4) (e49 : m 49 t = iN u) (hbd : (bd = 1 ∧ BDp m t) ∨ (bd = 0 ∧ ¬ BDp m t)) : lRes3 xs nx (R1 xs nx 10 94 [some (vR 0 (some 0)), some (vR 35 (some 0)), some (vR 45 (some 0)), some (vR 29 (some 0)), some (vR 80 (some 0)), some (vI 4), some (vI (iN one)), some (vI (iN two)), some (vI (iN t)), some (vI 1), some (vI (m 66 t)), some (vI (iN u)), some (vI (m 90 u)), none, none, none, none, none, none, none, none] [vI bd] (c, a, q, J)) i 2 c m a q J := by
  have h26 := hJ.1.2.2.1.1
  have h24 := hJ.1.2.1.1
  have z1 : a 80 1 = iN (fN c 24) := by rw [hA.1.2.1, (nJ_k hJ).1.2.1]
  have hin : ∃ k, k < fN c 26 ∧ iN t = iN k := ⟨t, hT, rfl⟩
  have et : ∀ {k}, k < fN c 26 → iN t = iN k → t = k := fun h z => (iN_inj (by omega) (by omega)).mp z
  have st : R1 xs nx 10 94 [some (vR 0 (some 0)), some (vR 35 (some 0)), some (vR 45 (some 0)), some (vR 29 (some 0)), some (vR 80 (some 0)), some (vI 4), some (vI (iN one)), some (vI (iN two)), some (vI (iN t)), some (vI 1), some (vI (m 66 t)), some (vI (iN u)), some (vI (m 90 u)), none, none, none, none, none, none, none, none] [vI bd] (c, a, q, J) = _ := d_10_94 _ _ _ _ _ _ _ _ _ _
  rw [if_neg (show ¬ (4 : Int32) = 0 by decide), if_neg (show ¬ (4 : Int32) = 1 by decide), if_neg (show ¬ (4 : Int32) = 2 by decide), if_neg (show ¬ (4 : Int32) = 3 by decide), if_pos (show (4 : Int32) = 4 from rfl)] at st
  obtain ⟨κ', c', m', hJ', hd⟩ := do19 (xs := xs) (nx := nx) (a := a) (q := q) (J := J) (by omega) hJ (iN t) 0 0 0 0 0
  obtain ⟨-, n0, hn0, en0⟩ := kind8 hJ hT
  rcases hd with ⟨v, ⟨⟨k, k1, k2, b4, b7, b8, pv, p66⟩, pk, p4⟩, hr⟩ | ⟨-, ⟨f, hr⟩ | ⟨f, hr⟩ | ⟨f, hr⟩⟩
  · have ek := et k1 k2
    subst ek
    have hN := n26_of hJ hJ' (by rw [pk])
    have hT' : t < fN c' 26 := by omega
    have h6 : ¬ (6 : Int32) < m 66 t := by
      intro z
      rw [en0] at z b7 b8
      have := (iN_lt (a := 6) (by omega) (by omega)).mp z
      obtain rfl | rfl : n0 = 7 ∨ n0 = 8 := by omega
      · exact b7 rfl
      · exact b8 rfl
    rw [hr, bI_Vl, if_neg n10, if_neg b4, if_neg h6, if_pos pv, q144 _ hJ' hT', bI_Vl, if_pos p66] at st
    exact ⟨κ', i + 1, c', m', q, by omega, by omega, by omega, hJ', pA_κ hA (by rw [pk]), p4, st⟩
  · exact absurd hin (show ¬ ∃ k, k < fN c 26 ∧ iN t = iN k from f)
  · exact (show False from f).elim
  · obtain ⟨k, k1, k2, hk⟩ : ∃ k, k < fN c 26 ∧ iN t = iN k ∧ (m 66 k = 4 ∨ m 66 k = 7 ∨ m 66 k = 8) := f
    have ek := et k1 k2
    subst ek
    rw [hr, bI_Vl, if_neg n10] at st
    have fin : R1 xs nx 10 94 [some (vR 0 (some 0)), some (vR 35 (some 0)), some (vR 45 (some 0)), some (vR 29 (some 0)), some (vR 80 (some 0)), some (vI 4), some (vI (iN one)), some (vI (iN two)), some (vI (iN t)), some (vI 1), some (vI (m 66 t)), some (vI (iN u)), some (vI (m 90 u)), none, none, none, none, none, none, none, none] [vI bd] (c, a, q, J) = nVl 1 c (a, q + 1, J) := by
      by_cases k4 : m 66 t = 4
      · rw [if_pos k4, d_10_649, if_pos rfl] at st
        exact st
      · have h6 : (6 : Int32) < m 66 t := by
          rcases hk with z | z | z
          · exact absurd z k4
          · rw [z]; decide
          · rw [z]; decide
        rw [if_neg k4, if_pos h6, d_10_649, if_pos rfl] at st
        exact st
    exact ⟨κ, i, c, m, q + 1, by omega, by omega, by omega, hJ, hA, rfl, fin⟩
theorem chY5 (hi : i + 2 < 512) (hJ : nJ κ i c m) (hA : pA κ a) {one two t u : Nat} {bd : Int32} (h1 : one < 60000) (h2 : two < 70000) (hT : t < fN c 26) (hu : u < 4) (e49 : m 49 t = iN u) (hbd : (bd = 1 ∧ BDp m t) ∨ (bd = 0 ∧ ¬ BDp m t)) : lRes3 xs nx (R1 xs nx 10 94 [some (vR 0 (some 0)), some (vR 35 (some 0)), some (vR 45 (some 0)), some (vR 29 (some 0)), some (vR 80 (some 0)), some (vI 5), some (vI (iN one)), some (vI (iN two)), some (vI (iN t)), some (vI 1), some (vI (m 66 t)), some (vI (iN u)), some (vI (m 90 u)), none, none, none, none, none, none, none, none] [vI bd] (c, a, q, J)) i 2 c m a q J := by
  have h26 := hJ.1.2.2.1.1
  have h24 := hJ.1.2.1.1
  have z1 : a 80 1 = iN (fN c 24) := by rw [hA.1.2.1, (nJ_k hJ).1.2.1]
  have hin : ∃ k, k < fN c 26 ∧ iN t = iN k := ⟨t, hT, rfl⟩
  have et : ∀ {k}, k < fN c 26 → iN t = iN k → t = k := fun h z => (iN_inj (by omega) (by omega)).mp z
  have st : R1 xs nx 10 94 [some (vR 0 (some 0)), some (vR 35 (some 0)), some (vR 45 (some 0)), some (vR 29 (some 0)), some (vR 80 (some 0)), some (vI 5), some (vI (iN one)), some (vI (iN two)), some (vI (iN t)), some (vI 1), some (vI (m 66 t)), some (vI (iN u)), some (vI (m 90 u)), none, none, none, none, none, none, none, none] [vI bd] (c, a, q, J) = _ := d_10_94 _ _ _ _ _ _ _ _ _ _
  have e6 : iN two - iN two / (6 : Int32) * 6 = iN (two % 6) := mdN 6 (by omega) (by omega)
  rw [if_neg (show ¬ (5 : Int32) = 0 by decide), if_neg (show ¬ (5 : Int32) = 1 by decide), if_neg (show ¬ (5 : Int32) = 2 by decide), if_neg (show ¬ (5 : Int32) = 3 by decide), if_neg (show ¬ (5 : Int32) = 4 by decide), if_pos (show (5 : Int32) = 5 from rfl), e6] at st
  have n5 : ∀ d, two % 6 = d → d < 5 → ¬ iN (two % 6) = (5 : Int32) := fun d e hd z => by have := (iN_inj (b := 5) (by omega) (by omega)).mp z; omega
  obtain ⟨κ', c', m', hJ', hd⟩ := do20 (xs := xs) (nx := nx) (a := a) (q := q) (J := J) (by omega) hJ (iN t) (iN (two % 6)) 0 0 0 0
  rcases hd with ⟨v, ⟨⟨k, d, k1, k2, d1, d2, b8, p66, p67, pv⟩, pk, p4⟩, hr⟩ | ⟨-, ⟨f, hr⟩ | ⟨f, hr⟩ | ⟨f, hr⟩⟩
  · have ek := et k1 k2
    subst ek
    have hN := n26_of hJ hJ' (by rw [pk])
    have hT' : t < fN c' 26 := by omega
    have ed : two % 6 = d := (iN_inj (by omega) (by omega)).mp d2
    rw [hr, bI_Vl, if_neg n10, if_neg (n5 d ed d1), if_pos b8, if_neg (nIn_nn pv (by decide)), q144 _ hJ' hT', bI_Vl, if_pos p66, q145 _ hJ' hT', bI_Vl, if_pos (p67.trans d2.symm)] at st
    exact ⟨κ', i + 1, c', m', q, by omega, by omega, by omega, hJ', pA_κ hA (by rw [pk]), p4, st⟩
  · have f : (¬ ∃ k, k < fN c 26 ∧ iN t = iN k) ∨ ¬ ∃ d, d < 5 ∧ iN (two % 6) = iN d := f
    have h5 : two % 6 = 5 := by
      rcases f with f | f
      · exact absurd hin f
      · rcases Nat.lt_or_ge (two % 6) 5 with z | z
        · exact absurd (isD_n z) f
        · omega
    rw [hr, bI_Vl, if_neg n10, if_pos (show iN (two % 6) = (5 : Int32) by rw [h5]; rfl), d_10_727, if_pos rfl] at st
    exact ⟨κ, i, c, m, q + 1, by omega, by omega, by omega, hJ, hA, rfl, st⟩
  · exact (show False from f).elim
  · obtain ⟨⟨k, k1, k2, hk⟩, d, d1, d2⟩ : (∃ k, k < fN c 26 ∧ iN t = iN k ∧ ¬ m 66 k = 8) ∧ ∃ d, d < 5 ∧ iN (two % 6) = iN d := f
    have ek := et k1 k2
    subst ek
    have ed : two % 6 = d := (iN_inj (by omega) (by omega)).mp d2
    rw [hr, bI_Vl, if_neg n10, if_neg (n5 d ed d1), if_neg hk, if_pos rfl] at st
    exact ⟨κ, i, c, m, q + 1, by omega, by omega, by omega, hJ, hA, rfl, st⟩
theorem chY7 (hi : i + 2 < 512) (hJ : nJ κ i c m) (hA : pA κ a) {one two t u : Nat} {bd : Int32} (h1 : one < 60000) (h2 : two < 70000) (hT : t < fN c 26) (hu : u < 4) (e49 : m 49 t = iN u) (hbd : (bd = 1 ∧ BDp m t) ∨ (bd = 0 ∧ ¬ BDp m t)) : lRes3 xs nx (R1 xs nx 10 94 [some (vR 0 (some 0)), some (vR 35 (some 0)), some (vR 45 (some 0)), some (vR 29 (some 0)), some (vR 80 (some 0)), some (vI 7), some (vI (iN one)), some (vI (iN two)), some (vI (iN t)), some (vI 1), some (vI (m 66 t)), some (vI (iN u)), some (vI (m 90 u)), none, none, none, none, none, none, none, none] [vI bd] (c, a, q, J)) i 2 c m a q J := by
  have h26 := hJ.1.2.2.1.1
  have h24 := hJ.1.2.1.1
  have z1 : a 80 1 = iN (fN c 24) := by rw [hA.1.2.1, (nJ_k hJ).1.2.1]
  have hin : ∃ k, k < fN c 26 ∧ iN t = iN k := ⟨t, hT, rfl⟩
  have et : ∀ {k}, k < fN c 26 → iN t = iN k → t = k := fun h z => (iN_inj (by omega) (by omega)).mp z
  have st : R1 xs nx 10 94 [some (vR 0 (some 0)), some (vR 35 (some 0)), some (vR 45 (some 0)), some (vR 29 (some 0)), some (vR 80 (some 0)), some (vI 7), some (vI (iN one)), some (vI (iN two)), some (vI (iN t)), some (vI 1), some (vI (m 66 t)), some (vI (iN u)), some (vI (m 90 u)), none, none, none, none, none, none, none, none] [vI bd] (c, a, q, J) = _ := d_10_94 _ _ _ _ _ _ _ _ _ _
  have e5 : iN two - iN two / (5 : Int32) * 5 = iN (two % 5) := mdN 5 (by omega) (by omega)
  have e53 : iN (two % 5) - iN (two % 5) / (3 : Int32) * 3 = iN (two % 5 % 3) := mdN 3 (by omega) (by omega)
  have d5 : iN two / (5 : Int32) = iN (two / 5) := iN_div (b := 5) (by omega) (by omega)
  have e2 : iN (two / 5) - iN (two / 5) / (2 : Int32) * 2 = iN (two / 5 % 2) := mdN 2 (by omega) (by omega)
  have hb2 : iN (two / 5 % 2) = 0 ∨ iN (two / 5 % 2) = 1 := by
    rcases Nat.mod_two_eq_zero_or_one (two / 5) with h | h
    · exact Or.inl (by rw [h]; rfl)
    · exact Or.inr (by rw [h]; rfl)
  rw [if_neg (show ¬ (7 : Int32) = 0 by decide), if_neg (show ¬ (7 : Int32) = 1 by decide), if_neg (show ¬ (7 : Int32) = 2 by decide), if_neg (show ¬ (7 : Int32) = 3 by decide), if_neg (show ¬ (7 : Int32) = 4 by decide), if_neg (show ¬ (7 : Int32) = 5 by decide), if_neg (show ¬ (7 : Int32) = 6 by decide), if_pos (show (7 : Int32) = 7 from rfl), e5, e53, if_neg n10, q146_5 _ hJ hT, bI_Vl, d_10_1037, d5, e2] at st
  obtain ⟨-, -, -, -, -, -, -, -, -, ⟨-, P, -, hP, eP⟩, -⟩ := hJ.2.2.2.2.2.1 t hT
  obtain ⟨κ', c', m', hJ', hd⟩ := do22 (xs := xs) (nx := nx) (a := a) (q := q) (J := J) (by omega) hJ (iN t) (iN (two % 5 % 3)) (iN (two / 5 % 2)) 0 0 0 hb2
  rcases hd with ⟨v, ⟨⟨k, w, k1, k2, w1, w2, c0, c1, p76, pv, pv50, q76, p90⟩, pk, p4⟩, hr⟩ | ⟨-, ⟨f, hr⟩ | ⟨f, hr⟩ | ⟨f, hr⟩⟩
  · have ek := et k1 k2
    subst ek
    have ew : u = w := (iN_inj (by omega) (by omega)).mp (e49.symm.trans w2)
    subst ew
    have hN := n26_of hJ hJ' (by rw [pk])
    have hT' : t < fN c' 26 := by omega
    have hK : two % 5 % 3 ≤ 1 := by
      rcases Nat.lt_or_ge 1 (two % 5 % 3) with z | z
      · exact absurd ((iN_lt (a := 1) (by omega) (by omega)).mpr z) c1
      · exact z
    obtain ⟨n, n1, n2, n3⟩ := pv
    have hnn : ¬ v < 0 := by rw [n3]; exact iN_pos (by omega)
    rw [hr, bI_Vl, if_neg n10, if_neg (show ¬ iN (two % 5 % 3) = (2 : Int32) from fun z => by have := (iN_inj (b := 2) (by omega) (by omega)).mp z; omega), if_neg (show ¬ (0 : Int32) < m 76 t by rw [p76]; decide), if_neg hnn, if_pos (show (0 : Int32) < v by rw [n3]; exact (iN_lt (a := 0) (by omega) (by omega)).mpr n1)] at st
    have fin : R1 xs nx 10 94 [some (vR 0 (some 0)), some (vR 35 (some 0)), some (vR 45 (some 0)), some (vR 29 (some 0)), some (vR 80 (some 0)), some (vI 7), some (vI (iN one)), some (vI (iN two)), some (vI (iN t)), some (vI 1), some (vI (m 66 t)), some (vI (iN u)), some (vI (m 90 u)), none, none, none, none, none, none, none, none] [vI bd] (c, a, q, J) = nVl 1 c' (a, q, J) := by
      by_cases k0 : two % 5 % 3 = 0
      · rw [if_pos (show iN (two % 5 % 3) = 0 by rw [k0]; rfl), d_10_1169, if_neg (show ¬ (500 : Int32) < v by rw [n3]; exact iN_nlt (a := 500) (by omega) (by omega) (by omega)), q146_5 _ hJ' hT', bI_Vl, if_pos q76, q154 _ hJ' hu, bI_Vl, if_pos p90] at st
        exact st
      · obtain ⟨n', n1', n2', n3'⟩ := pv50 (by rw [show two % 5 % 3 = 1 by omega]; rfl)
        rw [if_neg (show ¬ iN (two % 5 % 3) = (0 : Int32) from fun z => k0 ((iN_inj (b := 0) (by omega) (by omega)).mp z)), d_10_1169, if_neg (show ¬ (50 : Int32) < v by rw [n3']; exact iN_nlt (a := 50) (by omega) (by omega) (by omega)), q146_5 _ hJ' hT', bI_Vl, if_pos q76, q154 _ hJ' hu, bI_Vl, if_pos p90] at st
        exact st
    exact ⟨κ', i + 1, c', m', q, by omega, by omega, by omega, hJ', pA_κ hA (by rw [pk]), p4, fin⟩
  · exact absurd hin (show ¬ ∃ k, k < fN c 26 ∧ iN t = iN k from f)
  · have f : _ ∧ (iN (two % 5 % 3) < iN 0 ∨ iN 1 < iN (two % 5 % 3)) := f
    have hK : two % 5 % 3 = 2 := by
      rcases f.2 with z | z
      · exact absurd z (iN_nlt (by omega) (by omega) (by omega))
      · have := (iN_lt (by omega) (by omega)).mp z
        omega
    rw [hr, bI_Vl, if_neg n10, if_pos (show iN (two % 5 % 3) = (2 : Int32) by rw [hK]; rfl), if_pos rfl] at st
    exact ⟨κ, i, c, m, q + 1, by omega, by omega, by omega, hJ, hA, rfl, st⟩
  · have f : _ ∧ ¬ iN (two % 5 % 3) < 0 ∧ ¬ iN 1 < iN (two % 5 % 3) := f
    have hK : two % 5 % 3 ≤ 1 := by
      rcases Nat.lt_or_ge 1 (two % 5 % 3) with z | z
      · exact absurd ((iN_lt (a := 1) (by omega) (by omega)).mpr z) f.2.2
      · exact z
    rw [hr, bI_Vl, if_neg n10, if_neg (show ¬ iN (two % 5 % 3) = (2 : Int32) from fun z => by have := (iN_inj (b := 2) (by omega) (by omega)).mp z; omega)] at st
    have fin : R1 xs nx 10 94 [some (vR 0 (some 0)), some (vR 35 (some 0)), some (vR 45 (some 0)), some (vR 29 (some 0)), some (vR 80 (some 0)), some (vI 7), some (vI (iN one)), some (vI (iN two)), some (vI (iN t)), some (vI 1), some (vI (m 66 t)), some (vI (iN u)), some (vI (m 90 u)), none, none, none, none, none, none, none, none] [vI bd] (c, a, q, J) = nVl 1 c (a, q + 1, J) := by
      by_cases hp : (0 : Int32) < m 76 t
      · rw [if_pos hp, d_10_1111, if_pos rfl, q146_5 _ hJ hT, bI_Vl, if_pos rfl, q154 _ hJ hu, bI_Vl, if_pos rfl] at st
        exact st
      · rw [if_neg hp, if_pos (show (-1000000 : Int32) < 0 by decide), d_10_1111, if_pos rfl, q146_5 _ hJ hT, bI_Vl, if_pos rfl, q154 _ hJ hu, bI_Vl, if_pos rfl] at st
        exact st
    exact ⟨κ, i, c, m, q + 1, by omega, by omega, by omega, hJ, hA, rfl, fin⟩
end CHG
end KAP
