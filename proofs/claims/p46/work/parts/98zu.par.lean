/-! ===== isParcel: made by wip/p46/gen2/mk98zu.py ===== -/
section KAP
variable {κ : kP}
section PARC
variable {xs : Nat → Int32} {nx : Nat} {i : Nat} {c : nC} {m a : nM} {q : Nat} {J : Nat → Int64}
/-- has a customer such a reference already -/
def hasP (m : nM) (n : Nat) (x y : Int32) : Prop := ∃ k, k < n ∧ m 49 k = x ∧ m 50 k = y
theorem pr97 (hJ : nJ κ i c m) {n : Nat} (hn : n ≤ fN c 26) (g2 : a 80 2 = iN n) {one two : Nat} (told : Int32) {x y : Int32} : ∀ (l k : Nat) (b : Int32), k + l = n → (b = 0 ∨ b = 1) → (b = 1 ↔ hasP m k x y) →
    ∃ b', (b' = 0 ∨ b' = 1) ∧ (b' = 1 ↔ hasP m n x y) ∧ R1 xs nx 9 97 [some (vR 0 (some 0)), some (vR 80 (some 0)), some (vI (iN one)), some (vI (iN two)), some (vI x), some (vI y), some (vI told), some (vI b), some (vI (iN k)), none, none, none, none] [] (c, a, q, J) = R1 xs nx 9 97 [some (vR 0 (some 0)), some (vR 80 (some 0)), some (vI (iN one)), some (vI (iN two)), some (vI x), some (vI y), some (vI told), some (vI b'), some (vI (iN n)), none, none, none, none] [] (c, a, q, J) := by
  have h26 := hJ.1.2.2.1.1
  intro l
  induction l with
  | zero =>
    intro k b e hb h
    have ek : k = n := by omega
    subst ek
    exact ⟨b, hb, h, rfl⟩
  | succ l ih =>
    intro k b e hb h
    have hk : k < fN c 26 := by omega
    have st : R1 xs nx 9 97 [some (vR 0 (some 0)), some (vR 80 (some 0)), some (vI (iN one)), some (vI (iN two)), some (vI x), some (vI y), some (vI told), some (vI b), some (vI (iN k)), none, none, none, none] [] (c, a, q, J) = _ := d_9_97 _ _ _ _ _ _ _ _
    rw [if_pos i62] at st
    dsimp only at st
    simp only [t62, g2] at st
    rw [if_pos ((iN_lt (by omega) (by omega)).mpr (show k < n by omega))] at st
    have old : hasP m k x y → hasP m (k + 1) x y := fun ⟨j, h1, h2⟩ => ⟨j, by omega, h2⟩
    rcases hb with hb | hb
    · have h0 : ¬ hasP m k x y := fun z => by have := h.mpr z; rw [hb] at this; exact absurd this (by decide)
      rw [if_pos hb, q146_1 _ hJ hk, bI_Vl] at st
      by_cases e1 : m 49 k = x
      · rw [if_pos e1, q146_0 _ hJ hk, bI_Vl] at st
        by_cases e2 : m 50 k = y
        · rw [if_pos e2, d_9_134, d_9_139, iN_add1] at st
          obtain ⟨b', u1, u2, u3⟩ := ih (k + 1) 1 (by omega) (Or.inr rfl) ⟨fun _ => ⟨k, Nat.lt_succ_self k, e1, e2⟩, fun _ => rfl⟩
          exact ⟨b', u1, u2, st.trans u3⟩
        · rw [if_neg e2, d_9_138, d_9_139, iN_add1] at st
          obtain ⟨b', u1, u2, u3⟩ := ih (k + 1) 0 (by omega) (Or.inl rfl) ⟨fun z => absurd z (by decide), fun ⟨j, h1, h2⟩ => by
            by_cases ej : j = k
            · rw [ej] at h2; exact absurd h2.2 e2
            · exact absurd ⟨j, by omega, h2⟩ h0⟩
          exact ⟨b', u1, u2, st.trans u3⟩
      · rw [if_neg e1, d_9_138, d_9_139, iN_add1] at st
        obtain ⟨b', u1, u2, u3⟩ := ih (k + 1) 0 (by omega) (Or.inl rfl) ⟨fun z => absurd z (by decide), fun ⟨j, h1, h2⟩ => by
          by_cases ej : j = k
          · rw [ej] at h2; exact absurd h2.1 e1
          · exact absurd ⟨j, by omega, h2⟩ h0⟩
        exact ⟨b', u1, u2, st.trans u3⟩
    · rw [if_neg (show ¬ b = 0 by rw [hb]; decide), d_9_134, d_9_139, iN_add1] at st
      obtain ⟨b', u1, u2, u3⟩ := ih (k + 1) 1 (by omega) (Or.inr rfl) ⟨fun _ => old (h.mp hb), fun _ => rfl⟩
      exact ⟨b', u1, u2, st.trans u3⟩
/-- the end: doubt -/
theorem pr420 (hi : i + 1 < 512) (hJ : nJ κ i c m) (hA : pA κ a) {n one two : Nat} (h1 : one < 60000) (h2 : two < 70000) (hn : n < fN c 26) (h62 : m 62 n = 1) (h60 : m 60 n = -1) (h10 : fX c 26 n 10 = two / 20 % fN c 24) (x4 x5 x6 x7 x10 x11 : Int32) : lRes2 xs nx (R1 xs nx 9 420 [some (vR 0 (some 0)), some (vR 80 (some 0)), some (vI (iN one)), some (vI (iN two)), some (vI x4), some (vI x5), some (vI x6), some (vI x7), some (vI (iN n)), some (vI 1), some (vI x10), some (vI x11), none] [vI 1] (c, a, q, J)) i c m a q J := by
  have h24 := hJ.1.2.1.1
  have h26 := hJ.1.2.2.1.1
  have z1 : a 80 1 = iN (fN c 24) := by rw [hA.1.2.1, (nJ_k hJ).1.2.1]
  obtain ⟨-, -, ⟨y1, -⟩, -⟩ := hJ.2.2.2.2.2.1 n hn
  have hp : 0 < fN c 24 := by omega
  have hz : ¬ iN (fN c 24) = 0 := fun z => by have := (iN_inj (b := 0) (by omega) (by omega)).mp z; omega
  have d7 : iN one / (7 : Int32) = iN (one / 7) := iN_div (b := 7) (by omega) (by omega)
  have d20 : iN two / (20 : Int32) = iN (two / 20) := iN_div (b := 20) (by omega) (by omega)
  have e5 : iN two - iN two / (5 : Int32) * 5 = iN (two % 5) := mdN 5 (by omega) (by omega)
  have em : iN (one / 7) - iN (one / 7) / iN (fN c 24) * iN (fN c 24) = iN (one / 7 % fN c 24) := mdN (fN c 24) (by omega) (by omega)
  have en : iN (two / 20) - iN (two / 20) / iN (fN c 24) * iN (fN c 24) = iN (two / 20 % fN c 24) := mdN (fN c 24) (by omega) (by omega)
  have hm := Nat.mod_lt (one / 7) hp
  have hm2 := Nat.mod_lt (two / 20) hp
  have st : R1 xs nx 9 420 [some (vR 0 (some 0)), some (vR 80 (some 0)), some (vI (iN one)), some (vI (iN two)), some (vI x4), some (vI x5), some (vI x6), some (vI x7), some (vI (iN n)), some (vI 1), some (vI x10), some (vI x11), none] [vI 1] (c, a, q, J) = _ := d_9_420 _ _ _ _ _ _ _ _ _ _ _ _
  rw [if_pos i61, e5, d7] at st
  dsimp only at st
  simp only [t61, z1] at st
  rw [if_neg hz, if_neg n10] at st
  by_cases h5 : 0 < two % 5
  · rw [if_pos (show (0 : Int32) < iN (two % 5) from (iN_lt (a := 0) (by omega) (by omega)).mpr h5)] at st
    exact ⟨κ, i, c, m, q, by omega, by omega, by omega, hJ, hA, rfl, st⟩
  · rw [if_neg (show ¬ (0 : Int32) < iN (two % 5) from fun z => h5 ((iN_lt (a := 0) (by omega) (by omega)).mp z)), em] at st
    obtain ⟨κ', c', m', hJ', hd⟩ := do11 (xs := xs) (nx := nx) (a := a) (q := q) (J := J) (by omega) hJ (iN n) (iN (one / 7 % fN c 24)) 0 0 0 0
    rcases hd with ⟨v, ⟨k, x, k1, k2, k3, k4, k5, k6, k7, p4⟩, hr⟩ | ⟨-, ⟨f, hr⟩ | ⟨f, hr⟩ | ⟨f, hr⟩⟩
    · have ek : n = k := (iN_inj (by omega) (by omega)).mp k3
      have ex : one / 7 % fN c 24 = x := (iN_inj (by omega) (by omega)).mp k4
      rw [← ek, h10] at k5
      rw [← ek] at k7
      rw [hr, bI_Vl, if_pos i61] at st
      dsimp only at st
      simp only [t61, z1, d20, en] at st
      rw [if_neg hz, if_neg (show ¬ iN (one / 7 % fN c 24) = iN (two / 20 % fN c 24) from fun z => by have := (iN_inj (by omega) (by omega)).mp z; omega), d_9_476, if_pos (k7 h60)] at st
      exact ⟨κ', i + 1, c', m', q, by omega, by omega, by omega, hJ', by rw [k6]; exact hA, p4, st⟩
    · exfalso
      have f : (¬ ∃ k, k < fN c 26 ∧ iN n = iN k) ∨ ¬ ∃ k, k < fN c 24 ∧ iN (one / 7 % fN c 24) = iN k := f
      rcases f with f | f
      · exact f ⟨n, hn, rfl⟩
      · exact f ⟨_, hm, rfl⟩
    · obtain ⟨k, k1, k2, k3⟩ : ∃ k, k < fN c 26 ∧ iN n = iN k ∧ iN (one / 7 % fN c 24) = iN (fX c 26 k 10) := f
      have ek : n = k := (iN_inj (by omega) (by omega)).mp k2
      rw [← ek, h10] at k3
      rw [hr, bI_Vl, if_pos i61] at st
      dsimp only at st
      simp only [t61, z1, d20, en] at st
      rw [if_neg hz, if_pos k3, d_9_476, if_pos rfl] at st
      exact ⟨κ, i, c, m, q + 1, by omega, by omega, by omega, hJ, hA, rfl, st⟩
    · exfalso
      obtain ⟨k, k1, k2, k3, -⟩ : ∃ k, k < fN c 26 ∧ iN n = iN k ∧ m 62 k = 0 ∧ _ := f
      have ek : n = k := (iN_inj (by omega) (by omega)).mp k2
      rw [← ek, h62] at k3
      exact absurd k3 (by decide)
/-- the law brings a parcel -/
theorem isPa (hi : i + 6 < 512) (hJ : nJ κ i c m) (hA : pA κ a) (hc : a 80 5 = m 1 0) {one two : Nat} (h1 : one < 60000) (h2 : two < 70000) : lRes xs nx 9 [some (vR 0 (some 0)), some (vR 80 (some 0)), some (vI (iN one)), some (vI (iN two)), none, none, none, none, none, none, none, none, none] i 6 c m a q J := by
  have h24 := hJ.1.2.1.1
  have h26 := hJ.1.2.2.1.1
  have z1 : a 80 1 = iN (fN c 24) := by rw [hA.1.2.1, (nJ_k hJ).1.2.1]
  have z2 : a 80 2 = iN (fN c 26) := by rw [hA.1.2.2.1, (nJ_k hJ).1.2.2.1]
  have st : R1 xs nx 9 0 [some (vR 0 (some 0)), some (vR 80 (some 0)), some (vI (iN one)), some (vI (iN two)), none, none, none, none, none, none, none, none, none] [] (c, a, q, J) = _ := d_9_0 _ _ _
  rw [if_pos i61] at st
  dsimp only at st
  simp only [t61, z1] at st
  by_cases h0 : fN c 24 = 0
  · rw [if_pos (show iN (fN c 24) = 0 by rw [h0]; rfl)] at st
    have no26 : fN c 26 = 0 := by
      rcases Nat.eq_zero_or_pos (fN c 26) with z | z
      · exact z
      · obtain ⟨-, -, ⟨y1, -⟩, -⟩ := hJ.2.2.2.2.2.1 0 z
        omega
    obtain ⟨κ', c', m', hJ', hd⟩ := do8 (xs := xs) (nx := nx) (a := a) (q := q) (J := J) (by omega) hJ 0 0 0 0 1 0 (Or.inl rfl)
    rcases hd with ⟨v, ⟨⟨⟨u, sd, r, u1, u2, u3, -⟩, -⟩, -⟩, hr⟩ | ⟨-, ⟨f, hr⟩ | ⟨f, hr⟩ | ⟨f, hr⟩⟩
    · omega
    · rw [hr, bI_Vl, if_pos rfl] at st
      exact ⟨κ, i, c, m, a, q + 1, by omega, by omega, by omega, hJ, hA, rfl, rfl, st⟩
    · have f : (0 : Int32) < 0 ∨ (999 : Int32) < 0 ∨ (1 : Int32) < 1 ∨ (3 : Int32) < 1 := f
      rcases f with f | f | f | f <;> exact absurd f (by decide)
    · have f : fN c 26 = 40 ∨ ∃ k, k < fN c 26 ∧ _ := f
      rcases f with f | ⟨k, f, -⟩ <;> omega
  · have hp : 0 < fN c 24 := by omega
    have hz : ¬ iN (fN c 24) = 0 := fun z => by have := (iN_inj (b := 0) (by omega) (by omega)).mp z; omega
    have e4 : iN one - iN one / (4 : Int32) * 4 = iN (one % 4) := mdN 4 (by omega) (by omega)
    have d4 : iN one / (4 : Int32) = iN (one / 4) := iN_div (b := 4) (by omega) (by omega)
    have e40 : iN (one / 4) - iN (one / 4) / (40 : Int32) * 40 = iN ((one / 4) % 40) := mdN 40 (by omega) (by omega)
    have d20 : iN two / (20 : Int32) = iN (two / 20) := iN_div (b := 20) (by omega) (by omega)
    have d400 : iN two / (400 : Int32) = iN (two / 400) := iN_div (b := 400) (by omega) (by omega)
    have f3 : iN (two / 400) - iN (two / 400) / (3 : Int32) * 3 = iN ((two / 400) % 3) := mdN 3 (by omega) (by omega)
    have d1200 : iN two / (1200 : Int32) = iN (two / 1200) := iN_div (b := 1200) (by omega) (by omega)
    have g3 : iN (two / 1200) - iN (two / 1200) / (3 : Int32) * 3 = iN ((two / 1200) % 3) := mdN 3 (by omega) (by omega)
    have em : iN two - iN two / iN (fN c 24) * iN (fN c 24) = iN (two % fN c 24) := mdN (fN c 24) (by omega) (by omega)
    have en : iN (two / 20) - iN (two / 20) / iN (fN c 24) * iN (fN c 24) = iN (two / 20 % fN c 24) := mdN (fN c 24) (by omega) (by omega)
    have hm := Nat.mod_lt two hp
    have hm2 := Nat.mod_lt (two / 20) hp
    have s1 : (1 : Int32) + iN (two / 400 % 3) = iN (1 + two / 400 % 3) := i32_add (a := 1)
    rw [if_neg hz, if_pos i61, if_neg hz, if_pos i61, if_neg hz, e4, d4, e40, d20, d400, f3, d1200, g3, em, en, s1] at st
    obtain ⟨X, hX, st⟩ : ∃ X : Int32, (X = 0 ∨ X = 1) ∧ R1 xs nx 9 0 [some (vR 0 (some 0)), some (vR 80 (some 0)), some (vI (iN one)), some (vI (iN two)), none, none, none, none, none, none, none, none, none] [] (c, a, q, J) = R1 xs nx 9 86 [some (vR 0 (some 0)), some (vR 80 (some 0)), some (vI (iN one)), some (vI (iN two)), some (vI (iN (one % 4))), some (vI (iN (one / 4 % 40))), none, none, none, none, none, none, none] [vI X, vI (iN (1 + two / 400 % 3)), vI (iN (two / 20 % fN c 24)), vI (iN (two % fN c 24)), vI (iN (one / 4 % 40)), vI (iN (one % 4)), vI 8, vR 0 (some 0)] (c, a, q, J) := by
      by_cases h : iN (two / 1200 % 3) = 0
      · rw [if_pos h] at st
        exact ⟨1, Or.inr rfl, st⟩
      · rw [if_neg h] at st
        exact ⟨0, Or.inl rfl, st⟩
    rw [d_9_86] at st
    obtain ⟨κ', c', m', hJ', hd⟩ := do8 (xs := xs) (nx := nx) (a := a) (q := q) (J := J) (by omega) hJ (iN (one % 4)) (iN (one / 4 % 40)) (iN (two % fN c 24)) (iN (two / 20 % fN c 24)) (iN (1 + two / 400 % 3)) X hX
    have n40 : fN c 26 < 40 → ¬ iN (fN c 26) = (40 : Int32) := fun h z => by have := (iN_inj (b := 40) (by omega) (by omega)).mp z; omega
    rcases hd with ⟨v, ⟨⟨⟨u, sd, r, u1, u2, u3, u4, u5, u6, u7, u8, u9⟩, p1, p2, p3, p5, p6, p7, p8, p9, p10, p11⟩, k0, k1, k2, k3, k4, k5, k6, k7, k8, k9, p4⟩, hr⟩ | ⟨-, ⟨f, hr⟩ | ⟨f, hr⟩ | ⟨f, hr⟩⟩
    · -- it is there
      obtain ⟨⟨kk1, kk2, kk3, kk4, kk5⟩, kk6, kk7, kk8, kk9, kk10, kk11, -⟩ := nJ_k hJ'
      have hn26 : fN c' 26 = fN c 26 + 1 := by rw [← kk3]; exact k1
      have hn24 : fN c' 24 = fN c 24 := by rw [← kk2]; exact k2 24 (by decide)
      have hlt : fN c 26 < fN c' 26 := by omega
      have hp0 := (pA_C hJ).mp hA
      have hA' : pA κ' (uM 80 2 (iN (fN c 26) + 1) a) := by
        obtain ⟨⟨b0, b1, b2, b3, b4⟩, b5, b6, b7, b8⟩ := hp0
        refine ⟨⟨?_, ?_, ?_, ?_, ?_⟩, fun l hl => ?_, fun l hl => ?_, fun l hl => ?_, fun l hl => ?_⟩
        · rw [uM_k (by decide), k2 23 (by decide)]; exact b0
        · rw [uM_k (by decide), k2 24 (by decide)]; exact b1
        · rw [uM_kk, k1, iN_add1]
        · rw [uM_k (by decide), k2 27 (by decide)]; exact b3
        · rw [uM_k (by decide), k2 28 (by decide)]; exact b4
        · rw [k2 23 (by decide)] at hl
          rw [k3, k4, uM_ne (by decide)]
          exact b5 l hl
        · rw [k2 24 (by decide)] at hl
          rw [k5, uM_ne (by decide)]
          exact b6 l hl
        · rw [k2 27 (by decide)] at hl
          rw [k6, k7, uM_ne (by decide)]
          exact b7 l hl
        · rw [k2 28 (by decide)] at hl
          rw [k8, k9, uM_ne (by decide)]
          exact b8 l hl
      have hno : ¬ hasP m' (fN c 26) (iN (one % 4)) (iN (one / 4 % 40)) := by
        rintro ⟨j, j1, j2, j3⟩
        exact nJ_uni hJ' j (fN c 26) j1 hlt (by rw [j2, u8, u2]) (by rw [j3, u9])
      rw [hr, bI_Vl] at st
      obtain ⟨b', v1, v2, v3⟩ := pr97 (xs := xs) (nx := nx) (a := a) (q := q) (J := J) hJ' (n := fN c 26) (by omega) z2 (one := one) (two := two) v (x := (iN (one % 4))) (y := (iN (one / 4 % 40))) (fN c 26) 0 0 (Nat.zero_add _) (Or.inl rfl) ⟨fun z => absurd z (by decide), fun ⟨j, j1, _⟩ => absurd j1 (Nat.not_lt_zero j)⟩
      have eb : b' = 0 := v1.resolve_right (fun z => hno (v2.mp z))
      rw [show (iN 0 : Int32) = 0 from rfl] at v3
      rw [v3, eb, d_9_97, if_pos i62] at st
      dsimp only at st
      simp only [t62, z2] at st
      have w59 : m' 59 (fN c 26) = uM 80 2 (iN (fN c 26) + 1) a 80 5 + 100 := by rw [p6, uM_k (by decide), hc]
      rw [if_neg (iN_nlt (Nat.le_refl _) (by omega) (by omega)), if_true, if_pos i62, if_neg (n40 p1), if_pos i62, if_pos i62, if_pos i62, if_pos p2, q144 _ hJ' hlt, bI_Vl, if_pos p5, q146_4 _ hJ' hlt, bI_Vl, if_pos i65] at st
      dsimp only at st
      rw [t65] at st
      rw [if_pos w59, q146_2 _ hJ' hlt, bI_Vl, if_pos p7, q146_3 _ hJ' hlt, bI_Vl, if_pos p8, q146_5 _ hJ' hlt, bI_Vl, if_pos p9] at st
      -- worth
      have d160 : iN one / (160 : Int32) = iN (one / 160) := iN_div (b := 160) (by omega) (by omega)
      have f4 : iN (one / 160) - iN (one / 160) / (4 : Int32) * 4 = iN ((one / 160) % 4) := mdN 4 (by omega) (by omega)
      have f1000 : iN (one / 160) - iN (one / 160) / (1000 : Int32) * 1000 = iN ((one / 160) % 1000) := mdN 1000 (by omega) (by omega)
      obtain ⟨V, hV, st⟩ : ∃ V, V ≤ 999 ∧ R1 xs nx 9 0 [some (vR 0 (some 0)), some (vR 80 (some 0)), some (vI (iN one)), some (vI (iN two)), none, none, none, none, none, none, none, none, none] [] (c, a, q, J) = R1 xs nx 9 277 [some (vR 0 (some 0)), some (vR 80 (some 0)), some (vI (iN one)), some (vI (iN two)), some (vI (iN (one % 4))), some (vI (iN (one / 4 % 40))), some (vI v), some (vI 0), some (vI (iN (fN c 26))), some (vI 1), none, none, none] [vI (iN V)] (c', uM 80 2 (iN (fN c 26) + 1) a, q, J) := by
        rw [d_9_252, d160, f4] at st
        by_cases h : iN (one / 160 % 4) = 0
        · rw [if_pos h] at st
          exact ⟨0, by omega, st⟩
        · rw [if_neg h, f1000] at st
          exact ⟨one / 160 % 1000, by omega, st⟩
      have h3 : iN two - iN two / (3 : Int32) * 3 = iN (two % 3) := mdN 3 (by omega) (by omega)
      have h500 : iN two - iN two / (500 : Int32) * 500 = iN (two % 500) := mdN 500 (by omega) (by omega)
      obtain ⟨C, hC, st⟩ : ∃ C, C ≤ 499 ∧ R1 xs nx 9 0 [some (vR 0 (some 0)), some (vR 80 (some 0)), some (vI (iN one)), some (vI (iN two)), none, none, none, none, none, none, none, none, none] [] (c, a, q, J) = R1 xs nx 9 306 [some (vR 0 (some 0)), some (vR 80 (some 0)), some (vI (iN one)), some (vI (iN two)), some (vI (iN (one % 4))), some (vI (iN (one / 4 % 40))), some (vI v), some (vI 0), some (vI (iN (fN c 26))), some (vI 1), some (vI (iN V)), none, none] [vI (iN C), vI (iN V), vI (iN (fN c 26)), vI 9, vR 0 (some 0)] (c', uM 80 2 (iN (fN c 26) + 1) a, q, J) := by
        rw [d_9_277, if_neg n10, h3, h500] at st
        by_cases h : iN (two % 3) = 0
        · rw [if_pos h] at st
          exact ⟨two % 500, by omega, st⟩
        · rw [if_neg h] at st
          exact ⟨0, by omega, st⟩
      rw [d_9_306] at st
      obtain ⟨κ2, c2, m2, hJ2, hd2⟩ := do9 (xs := xs) (nx := nx) (a := uM 80 2 (iN (fN c 26) + 1) a) (q := q) (J := J) (by omega) hJ' (iN (fN c 26)) (iN V) (iN C) 0 0 0
      rcases hd2 with ⟨v9, ⟨k, w1, w2, -, -, -, -, -, w3, w4, w5, w6, w7⟩, hr2⟩ | ⟨-, ⟨f, hr2⟩ | ⟨f, hr2⟩ | ⟨f, hr2⟩⟩
      · have ek : fN c 26 = k := (iN_inj (by omega) (by omega)).mp w2
        rw [← ek] at w5
        have x62 : m2 62 (fN c 26) = 1 := by rw [w5]; simp (disch := decide) only [uM_ne]; exact p10
        have x60 : m2 60 (fN c 26) = -1 := by rw [w5]; simp (disch := decide) only [uM_ne]; exact p11
        have hN2 : fN c2 26 = fN c' 26 := by rw [← (nJ_k hJ2).1.2.2.1, w3, kk3]
        have hN24 : fN c2 24 = fN c 24 := by rw [← (nJ_k hJ2).1.2.1, w3, kk2, hn24]
        have x10 : fX c2 26 (fN c 26) 10 = two / 20 % fN c2 24 := by
          rw [w6, hN24]
          obtain ⟨-, -, -, ⟨y1, y2⟩, -⟩ := hJ'.2.2.2.2.2.1 (fN c 26) hlt
          have := (iN_inj (by omega) (by omega)).mp (y2.symm.trans (u7.trans u6.symm))
          omega
        have hA2 : pA κ2 (uM 80 2 (iN (fN c 26) + 1) a) := by rw [w3]; exact hA'
        have hck2 : m2 1 0 = m 1 0 := w7.trans p4
        rw [hr2, bI_Vl, if_pos w4] at st
        have d7' : iN two / (7 : Int32) = iN (two / 7) := iN_div (b := 7) (by omega) (by omega)
        have j20 : iN (two / 7) - iN (two / 7) / (20 : Int32) * 20 = iN ((two / 7) % 20) := mdN 20 (by omega) (by omega)
        have d11 : iN two / (11 : Int32) = iN (two / 11) := iN_div (b := 11) (by omega) (by omega)
        have j100 : iN (two / 11) - iN (two / 11) / (100 : Int32) * 100 = iN ((two / 11) % 100) := mdN 100 (by omega) (by omega)
        have j4 : iN two - iN two / (4 : Int32) * 4 = iN (two % 4) := mdN 4 (by omega) (by omega)
        have a5 : uM 80 2 (iN (fN c 26) + 1) a 80 5 = a 80 5 := uM_k (by decide)
        rw [d_9_328, if_neg n10, d7', j20] at st
        by_cases h3p : 0 < one % 3
        · have e3p : (0 : Int32) < iN one - iN one / (3 : Int32) * 3 := by
            rw [show iN one - iN one / (3 : Int32) * 3 = iN (one % 3) from mdN 3 (by omega) (by omega)]
            exact (iN_lt (a := 0) (by omega) (by omega)).mpr h3p
          rw [if_pos e3p, d_9_415] at st
          obtain ⟨κ3, i3, c3, m3, q3, b1, b2, b3, b4, b5, b6, b7⟩ := pr420 (xs := xs) (nx := nx) (q := q) (J := J) (by omega) hJ2 hA2 h1 h2 (by omega) x62 x60 x10 _ _ _ _ _ _
          exact ⟨κ3, i3, c3, m3, _, q3, by omega, by omega, by omega, b4, b5, b6.trans hck2, a5, st.trans b7⟩
        · have e3p : ¬ (0 : Int32) < iN one - iN one / (3 : Int32) * 3 := by
            rw [show iN one - iN one / (3 : Int32) * 3 = iN (one % 3) from mdN 3 (by omega) (by omega)]
            exact fun z => h3p ((iN_lt (a := 0) (by omega) (by omega)).mp z)
          have s2 : iN (two / 7 % 20) + (1 : Int32) + iN (two % 4) = iN (two / 7 % 20 + 1 + two % 4) := by rw [iN_add1]; exact i32_add
          have s3 : (1 : Int32) + iN (two / 11 % 100) = iN (1 + two / 11 % 100) := i32_add (a := 1)
          rw [if_neg e3p, d11, j100, j4, s2, s3] at st
          obtain ⟨κ3, c3, m3, hJ3, hd3⟩ := do10 (xs := xs) (nx := nx) (a := uM 80 2 (iN (fN c 26) + 1) a) (q := q) (J := J) (by omega) hJ2 (iN (fN c 26)) (iN (two / 7 % 20)) (iN (two / 7 % 20 + 1 + two % 4)) (iN (1 + two / 11 % 100)) 0 0
          rcases hd3 with ⟨v10, ⟨k', w1', w2', -, -, -, -, -, -, -, w3', w4', w5', w6', w7'⟩, hr3⟩ | ⟨-, ⟨f, hr3⟩ | ⟨f, hr3⟩ | ⟨f, hr3⟩⟩
          · have ek' : fN c 26 = k' := (iN_inj (by omega) (by omega)).mp w2'
            rw [← ek'] at w5'
            have y62 : m3 62 (fN c 26) = 1 := by rw [w5']; simp (disch := decide) only [uM_ne]; exact x62
            have y60 : m3 60 (fN c 26) = -1 := by rw [w5']; simp (disch := decide) only [uM_ne]; exact x60
            have hN3 : fN c3 26 = fN c' 26 := by rw [← (nJ_k hJ3).1.2.2.1, w3', (nJ_k hJ2).1.2.2.1, hN2]
            have hN34 : fN c3 24 = fN c2 24 := by rw [← (nJ_k hJ3).1.2.1, w3', (nJ_k hJ2).1.2.1]
            have y10 : fX c3 26 (fN c 26) 10 = two / 20 % fN c3 24 := by rw [w6', hN34]; exact x10
            have hA3 : pA κ3 (uM 80 2 (iN (fN c 26) + 1) a) := by rw [w3']; exact hA2
            have hck3 : m3 1 0 = m 1 0 := w7'.trans hck2
            have ev : v10 = uM 80 2 (iN (fN c 26) + 1) a 80 5 + 1 + iN (two / 11 % 100) := by
              rw [w4', a5, hc, hck2, ← s3, Int32.add_assoc]
            rw [hr3, bI_Vl, if_pos i65] at st
            dsimp only at st
            rw [t65] at st
            rw [if_pos ev] at st
            obtain ⟨κ4, c4, m4, hJ4, hd4⟩ := do10 (xs := xs) (nx := nx) (a := uM 80 2 (iN (fN c 26) + 1) a) (q := q) (J := J) (by omega) hJ3 (iN (fN c 26)) (iN (two / 7 % 20)) (iN (two / 7 % 20)) 5 0 0
            have hlt5 : iN (two / 7 % 20) < iN (two / 7 % 20) + 1 := by rw [iN_add1]; exact (iN_lt (by omega) (by omega)).mpr (by omega)
            rcases hd4 with ⟨-, ⟨-, -, -, -, -, g1, -⟩, -⟩ | ⟨-, ⟨f, hr4⟩ | ⟨f, hr4⟩ | ⟨f, hr4⟩⟩
            · exact absurd hlt5 g1
            · exact absurd ⟨fN c 26, by omega, rfl⟩ (show ¬ ∃ k, k < fN c3 26 ∧ iN (fN c 26) = iN k from f)
            · rw [hr4, bI_Vl, if_pos rfl, d_9_415] at st
              obtain ⟨κ5, i5, c5, m5, q5, b1, b2, b3, b4, b5, b6, b7⟩ := pr420 (xs := xs) (nx := nx) (q := q + 1) (J := J) (by omega) hJ3 hA3 h1 h2 (by omega) y62 y60 y10 _ _ _ _ _ _
              exact ⟨κ5, i5, c5, m5, _, q5, by omega, by omega, by omega, b4, b5, b6.trans hck3, a5, st.trans b7⟩
            · obtain ⟨-, -, -, -, g1⟩ : ∃ k, k < fN c3 26 ∧ iN (fN c 26) = iN k ∧ m3 62 k = 0 ∧ ¬ iN (two / 7 % 20) < iN (two / 7 % 20) + 1 := f
              exact absurd hlt5 g1
          · exact absurd ⟨fN c 26, by omega, rfl⟩ (show ¬ ∃ k, k < fN c2 26 ∧ iN (fN c 26) = iN k from f)
          · have f : iN (two / 7 % 20) < iN 0 ∨ iN 23 < iN (two / 7 % 20) ∨ iN (two / 7 % 20 + 1 + two % 4) < iN (two / 7 % 20) + 1 ∨ iN 24 < iN (two / 7 % 20 + 1 + two % 4) ∨ iN (1 + two / 11 % 100) < iN 1 ∨ iN 200 < iN (1 + two / 11 % 100) := f
            rw [iN_add1] at f
            rcases f with f | f | f | f | f | f
            all_goals exact absurd f (iN_nlt (by omega) (by omega) (by omega))
          · obtain ⟨k', g1, g2, g3, -⟩ : ∃ k, k < fN c2 26 ∧ iN (fN c 26) = iN k ∧ m2 62 k = 0 ∧ _ := f
            have ek' : fN c 26 = k' := (iN_inj (by omega) (by omega)).mp g2
            rw [← ek', x62] at g3
            exact absurd g3 (by decide)
      · exact absurd ⟨fN c 26, hlt, rfl⟩ (show ¬ ∃ k, k < fN c' 26 ∧ iN (fN c 26) = iN k from f)
      · have f : iN V < iN 0 ∨ iN 1000 < iN V ∨ iN C < iN 0 ∨ iN 500 < iN C := f
        rcases f with f | f | f | f
        all_goals exact absurd f (iN_nlt (by omega) (by omega) (by omega))
      · obtain ⟨k', g1, g2, g3⟩ : ∃ k, k < fN c' 26 ∧ iN (fN c 26) = iN k ∧ m' 62 k = 0 := f
        have ek' : fN c 26 = k' := (iN_inj (by omega) (by omega)).mp g2
        rw [← ek', p10] at g3
        exact absurd g3 (by decide)
    · exfalso
      have f : (¬ ∃ d, d < 4 ∧ (iN (one % 4)) = iN d) ∨ (¬ ∃ k, k < fN c 24 ∧ iN (two % fN c 24) = iN k) ∨ ¬ ∃ k, k < fN c 24 ∧ iN (two / 20 % fN c 24) = iN k := f
      rcases f with f | f | f
      · exact f ⟨one % 4, Nat.mod_lt _ (by decide), rfl⟩
      · exact f ⟨_, hm, rfl⟩
      · exact f ⟨_, hm2, rfl⟩
    · exfalso
      have f : (iN (one / 4 % 40)) < iN 0 ∨ iN 999 < (iN (one / 4 % 40)) ∨ iN (1 + two / 400 % 3) < iN 1 ∨ iN 3 < iN (1 + two / 400 % 3) := f
      rcases f with f | f | f | f
      all_goals exact absurd f (iN_nlt (by omega) (by omega) (by omega))
    · have f : fN c 26 = 40 ∨ hasP m (fN c 26) (iN (one % 4)) (iN (one / 4 % 40)) := f
      rw [hr, bI_Vl] at st
      obtain ⟨b', v1, v2, v3⟩ := pr97 (xs := xs) (nx := nx) (a := a) (q := q + 1) (J := J) hJ (n := fN c 26) (Nat.le_refl _) z2 (one := one) (two := two) (-1000000) (x := (iN (one % 4))) (y := (iN (one / 4 % 40))) (fN c 26) 0 0 (Nat.zero_add _) (Or.inl rfl) ⟨fun z => absurd z (by decide), fun ⟨j, j1, _⟩ => absurd j1 (Nat.not_lt_zero j)⟩
      rw [show (iN 0 : Int32) = 0 from rfl] at v3
      rw [v3, d_9_97, if_pos i62] at st
      dsimp only at st
      simp only [t62, z2] at st
      rw [if_neg (iN_nlt (Nat.le_refl _) (by omega) (by omega))] at st
      have fin : R1 xs nx 9 0 [some (vR 0 (some 0)), some (vR 80 (some 0)), some (vI (iN one)), some (vI (iN two)), none, none, none, none, none, none, none, none, none] [] (c, a, q, J) = nVl 1 c (a, q + 1, J) := by
        rcases v1 with e | e
        · have h40 : fN c 26 = 40 := f.resolve_right (fun z => by have := v2.mpr z; rw [e] at this; exact absurd this (by decide))
          rw [if_pos e, if_pos i62, if_pos (show iN (fN c 26) = (40 : Int32) by rw [h40]; rfl), d_9_160, if_pos rfl] at st
          exact st
        · rw [if_neg (show ¬ b' = 0 by rw [e]; decide), d_9_160, if_pos rfl] at st
          exact st
      exact ⟨κ, i, c, m, a, q + 1, by omega, by omega, by omega, hJ, hA, rfl, rfl, fin⟩
end PARC
end KAP
