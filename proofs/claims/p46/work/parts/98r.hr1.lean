/-! ===== an hour: trailers that come ===== -/
section KAP
variable {κ : kP}
section OQI
variable {xs : Nat → Int32} {nx : Nat}
section FR
variable {c : nC} {m : nM}
theorem fr_uM {t j : Nat} {x : Int32} (h : t ≠ 1 ∧ t ≠ 31 ∧ t ≠ 66 ∧ t ≠ 67 ∧ t ≠ 69) : fr c m c (uM t j x m) := by
  have e1 : uM t j x m 1 = m 1 := uM_ne (by omega)
  have e31 : uM t j x m 31 = m 31 := uM_ne (by omega)
  have e66 : uM t j x m 66 = m 66 := uM_ne (by omega)
  have e67 : uM t j x m 67 = m 67 := uM_ne (by omega)
  have e69 : uM t j x m 69 = m 69 := uM_ne (by omega)
  refine ⟨fun _ _ => rfl, fun _ => rfl, fun _ _ => rfl, by rw [e1], by rw [e1], by rw [e1], e31, fun k hk => ?_⟩
  rw [e66] at hk
  rw [e67, e69]
  exact Or.inl ⟨hk, rfl, rfl⟩
theorem fr_uI {t k j : Nat} {x : Int32} (h : t ≠ 21) : fr c m (uI t k j x c) m := ⟨fun _ _ => rfl, fun d => by rw [fI_ne (by omega)], fun _ _ => rfl, rfl, rfl, rfl, rfl, fun _ h => Or.inl ⟨h, rfl, rfl⟩⟩
theorem fr_uP {t k j : Nat} {x : Option Nat} : fr c m (uP t k j x c) m := ⟨fun _ _ => rfl, fun d => rfl, fun _ _ => rfl, rfl, rfl, rfl, rfl, fun _ h => Or.inl ⟨h, rfl, rfl⟩⟩
theorem fr_uL {t k : Nat} {x : List Nat} : fr c m (uL t k x c) m := ⟨fun _ _ => rfl, fun d => rfl, fun _ _ => rfl, rfl, rfl, rfl, rfl, fun _ h => Or.inl ⟨h, rfl, rfl⟩⟩
theorem fr_mvC {k : Nat} {w a ck : Int32} {D : Option Nat} {q : Option (Nat × Nat)} : fr c m (cMv k w a D q ck c) m :=
  ⟨fun t _ => by rw [cMv_N], fun d => by rw [cMv_I (by decide), cOut_I (by decide)], fun t _ => by rw [cMv_X], rfl, rfl, rfl, rfl, fun _ h => Or.inl ⟨h, rfl, rfl⟩⟩
theorem fr_mvM {k : Nat} {w a : Int32} (hw : w ≠ 2) : fr c m c (mMv k w a m) := by
  refine ⟨fun _ _ => rfl, fun _ => rfl, fun _ _ => rfl, mMv_1 (by decide), mMv_1 (by decide), mMv_1 (by decide), mMv_ne (by decide), fun x hx => ?_⟩
  by_cases e : x = k
  · subst e
    rw [mMv_66] at hx
    exact absurd hx hw
  · rw [mMv_k (by decide) e] at hx
    exact Or.inl ⟨hx, mMv_k (by decide) e, by rw [mMv_ne (by decide)]⟩
theorem fr_mv {k : Nat} {w a ck : Int32} {D : Option Nat} {q : Option (Nat × Nat)} (hw : w ≠ 2) : fr c m (cMv k w a D q ck c) (mMv k w a m) := fr_trans fr_mvC (fr_mvM hw)
theorem fr_sc {c' : nC} {k d : Nat} {a : Int32} (h : nSame c c') : fr c m c' (scM k d a m) := by
  obtain ⟨s1, s2, s3, s4, s5, s6, s7⟩ := h
  refine ⟨s6, s7, s2, scM_1 (by decide), scM_1 (by decide), scM_1 (by decide), scM_ne (by decide), fun x hx => ?_⟩
  rw [scM_ne (by decide)] at hx
  rw [scM_ne (by decide), scM_ne (by decide)]
  exact Or.inl ⟨hx, rfl, rfl⟩
end FR
theorem sty2 {i : Nat} {c : nC} {m : nM} (hJ : nJ κ i c m) {k : Nat} (hk : k < fN c 26) (h : m 66 k = 2) : ∃ l, l < fN c 23 ∧ m 67 k = iN l ∧ m 69 k = fI c 9 k 2 + fI c 23 l 3 ∧ m 1 0 ≤ m 69 k := by
  obtain ⟨-, -, -, -, y⟩ := hJ.2.2.2.2.2.2.2.1 k hk
  rw [h] at y
  rcases y with ⟨z, -⟩ | ⟨z, -⟩ | ⟨z, d, z1, z2, -, -, -, -, -, z3, z4, -⟩ | ⟨z, -⟩ | ⟨z, -⟩ | ⟨z, -⟩ | ⟨z, -⟩ | ⟨z, -⟩ | ⟨z, -⟩
  · exact absurd z (by decide)
  · exact absurd z (by decide)
  · exact ⟨d, z1, z2, z3, z4⟩
  all_goals exact absurd z (by decide)
/-- a parcel that is not at a sorting is not fresh -/
theorem notFresh {i k : Nat} {c : nC} {m : nM} (hJ : nJ κ i c m) (hk : k < fN c 26) (h0 : m 66 k ≠ 0) (h8 : m 66 k ≠ 8) : m 62 k ≠ 1 := by
  intro z
  rcases ((hJ.2.2.2.2.2.2.2.2.2.2.1 k hk).2.2.2.2.2.1 z).2.2 with y | y
  · exact h0 y
  · exact h8 y
/-- a parcel comes from a lane -/
theorem bringJ {i k l : Nat} {c : nC} {m : nM} (hJ : nJ κ i c m) (hi : i % 100000 < 90000) (hk : k < fN c 26) (hl : l < fN c 23) (h2 : m 66 k = 2) (h67 : m 67 k = iN l) :
    ∃ c' m', nJ κ (i + 1) c' m' ∧ fr c m c' m' ∧ fL c' 6 l = (fL c 6 l).erase k ∧ m' 66 k ≠ 2 ∧ m' 95 k = 1 ∧ (∀ j, j ≠ k → m' 95 j = m 95 j) ∧ (∀ j, j ≠ k → m' 69 j = m 69 j) ∧
      (∀ z, R1 xs nx 105 0 [some (vR 0 (some 0)), some (vR 26 (some k)), some (vR 23 (some l))] [] (c, z) = some (.inl none, (c', z))) ∧
      ∀ c9 z, R1 xs nx 208 65 [some (vR 1 (some 0)), some (vI (iN l)), some (vI (iN k))] [] (c9, m, z) = R1 xs nx 208 150 [some (vR 1 (some 0)), some (vI (iN l)), some (vI (iN k))] [] (c9, m', z) := by
  have h40 := k40 hJ hk
  have h12 := hJ.1.1.1
  have kin : mIn (iN k) 40 = true := iN_in40 h40
  have ken : (iN k).toNatClampNeg = k := i32_nat (by omega)
  have lin : mIn (iN l) 12 = true := iN_in (by omega) (by omega)
  have len : (iN l).toNatClampNeg = l := i32_nat (by omega)
  obtain ⟨-, ⟨x5, x6⟩, -, ⟨f1, -⟩, -⟩ := hJ.2.2.2.1.1 l hl
  obtain ⟨-, -, -, -, -, -, ⟨z1, -⟩, -, ⟨z3, -⟩, -⟩ := hJ.2.2.2.2.2.1 k hk
  have hq : fQ c k = some (6, l) := ((nJ_q hJ hk).2 l (by omega)).2.2.mpr ⟨h2, h67⟩
  have hJ' := nJ_95 (j := k) (x := 1) hJ
  have e4 : m 66 k ≠ 4 := by rw [h2]; decide
  have e7 : m 66 k ≠ 7 := by rw [h2]; decide
  have hf := notFresh hJ hk (by rw [h2]; decide) (by rw [h2]; decide)
  have ck : uM 95 k 1 m 1 0 = m 1 0 := by rw [uM_ne (by decide)]
  obtain ⟨b1, b2⟩ := nJ_69 hJ'
  have m95 : ∀ M : nM, (∀ j, M 95 j = uM 95 k 1 m 95 j) → M 95 k = 1 ∧ ∀ j, j ≠ k → M 95 j = m 95 j := fun M hM => ⟨by rw [hM, uM_kk], fun j hj => by rw [hM, uM_k hj]⟩
  by_cases hs : m 38 l ≠ 0 ∧ 0 < m 55 k ∧ m 64 k = 0
  · obtain ⟨q1, q2, q3⟩ := hs
    have hp := put6 (b := 1) (Or.inr rfl) hJ' hi hk (by rw [uM_ne (by decide)]; exact e4) (by rw [uM_ne (by decide)]; exact e7) x5 (by rw [uM_ne (by decide)]; exact hf)
    rw [ck] at hp
    obtain ⟨c', t1, t2, t3⟩ := noteJ (xs := xs) (nx := nx) (k := k) (a := 3) hp (by rw [fN_uI, cMv_N]; exact hk) x5 ⟨3, by omega, by omega, rfl⟩
    refine ⟨c', _, t1, fr_trans (fr_trans (fr_uM (t := 95) (j := k) (x := 1) (by decide)) (fr_trans (fr_mv (w := 6) (by decide)) (fr_trans (fr_uI (t := 9) (by decide)) (fr_uM (t := 73) (by decide))))) (fr_sc t2), ?_, ?_, ?_, ?_, ?_, fun z => ?_, fun c9 z => ?_⟩
    · rw [t2.2.2.2.2.1 6 (by decide) (by decide), fL_uI, cMv_L, if_neg (by intro z; cases z), cOut_L, if_pos hq]
    · rw [scM_ne (by decide), uM_ne (by decide), mMv_66]; decide
    · exact (m95 _ (fun j => by rw [scM_ne (by decide), uM_ne (by decide), mMv_ne (by decide)])).1
    · exact (m95 _ (fun j => by rw [scM_ne (by decide), uM_ne (by decide), mMv_ne (by decide)])).2
    · intro j hj
      rw [scM_ne (by decide), uM_ne (by decide), mMv_ne (by decide), uM_ne (by decide)]
    · rw [d_105_0, d_103_0]
      dsimp only
      rw [f1, if_neg q1, z1, if_pos q2, z3, if_pos q3, bI_some, if_neg n10]
      dsimp only
      rw [d_104_0]
      show bV (bV (R1 xs nx 57 0 [some (vR 26 (some k)), some (vI (6 : Int32)), some (vI (iN (fX c 23 l 2))), some (vR 21 (some (fX c 23 l 2))), some (vL none), some (vI (fI c 0 0 9)), none, none] [] (c, z)) _ _) _ _ = _
      rw [mvR hJ hk (Or.inl rfl), (nJ_ck hJ).1, bV_none]
      dsimp only
      rw [if_pos (Or.inr rfl), bV_none, d_105_30]
      dsimp only
      rw [fX_uI, cMv_X, t3 z, bV_none]
    · rw [d_208_65, if_neg (iN_ne1 (by omega)), if_pos ⟨kin, Or.inr rfl⟩, if_pos lin, len, ken]
      dsimp only
      rw [x6, r193 (B := (fL c 19 0).length) x5 b1 b2, bV_none]
      dsimp only
      simp (disch := decide) only [scM_ne, uM_ne, lin, kin, if_true, len, ken]
      rw [if_neg q1, if_pos q2, if_pos q3, x6, r190 h40, bV_none]
      dsimp only
      rw [if_pos (by simp)]
      rw [scM_mMv, scM_uM (by omega)]
  · have hp := put0 hJ' hi hk (by rw [uM_ne (by decide)]; exact e4) (by rw [uM_ne (by decide)]; exact e7) x5
    rw [ck] at hp
    obtain ⟨c', t1, t2, t3⟩ := noteJ (xs := xs) (nx := nx) (k := k) (a := 3) hp (by rw [cMv_N]; exact hk) x5 ⟨3, by omega, by omega, rfl⟩
    refine ⟨c', _, t1, fr_trans (fr_trans (fr_uM (t := 95) (j := k) (x := 1) (by decide)) (fr_mv (w := 0) (by decide))) (fr_sc t2), ?_, ?_, ?_, ?_, ?_, fun z => ?_, fun c9 z => ?_⟩
    · rw [t2.2.2.2.2.1 6 (by decide) (by decide), cMv_L, if_neg (by intro z; cases z), cOut_L, if_pos hq]
    · rw [scM_ne (by decide), mMv_66]; decide
    · exact (m95 _ (fun j => by rw [scM_ne (by decide), mMv_ne (by decide)])).1
    · exact (m95 _ (fun j => by rw [scM_ne (by decide), mMv_ne (by decide)])).2
    · intro j hj
      rw [scM_ne (by decide), mMv_ne (by decide), uM_ne (by decide)]
    · have h103 : R1 xs nx 103 0 [some (vR 23 (some l)), some (vR 26 (some k))] [] (c, z) = some (.inl (some (vI 0)), (c, z)) := by
        rw [d_103_0]
        dsimp only
        rw [f1, z1, z3]
        by_cases q1 : m 38 l = 0
        · rw [if_pos q1]
        · rw [if_neg q1]
          by_cases q2 : 0 < m 55 k
          · rw [if_pos q2, if_neg (fun q3 => hs ⟨q1, q2, q3⟩)]
          · rw [if_neg q2]
      rw [d_105_0, h103, bI_some, if_pos rfl]
      dsimp only
      rw [r94 hJ hk x5, bV_none, d_105_30]
      dsimp only
      rw [cMv_X, t3 z, bV_none]
    · have h139 : ∀ M : nM, M 36 l = iN (fX c 23 l 2) → R1 xs nx 208 139 [some (vR 1 (some 0)), some (vI (iN l)), some (vI (iN k))] [] (c9, M, z) = R1 xs nx 208 150 [some (vR 1 (some 0)), some (vI (iN l)), some (vI (iN k))] [] (c9, mMv k 0 (iN (fX c 23 l 2)) M, z) := by
        intro M hM
        rw [d_208_139, if_pos lin, len]
        dsimp only
        rw [hM, r191 h40, bV_none]
      rw [d_208_65, if_neg (iN_ne1 (by omega)), if_pos ⟨kin, Or.inr rfl⟩, if_pos lin, len, ken]
      dsimp only
      rw [x6, r193 (B := (fL c 19 0).length) x5 b1 b2, bV_none]
      dsimp only
      have h36 : scM k (fX c 23 l 2) 3 (uM 95 k 1 m) 36 l = iN (fX c 23 l 2) := by rw [scM_ne (by decide), uM_ne (by decide), x6]
      simp (disch := decide) only [scM_ne, uM_ne, lin, kin, if_true, len, ken]
      rw [h139 _ h36, scM_mMv]
      by_cases q1 : m 38 l = 0
      · rw [if_pos q1]
      · rw [if_neg q1]
        by_cases q2 : 0 < m 55 k
        · rw [if_pos q2, if_neg (fun q3 => hs ⟨q1, q2, q3⟩)]
        · rw [if_neg q2]
/-- the trailers of a lane -/
theorem arrL {l : Nat} : ∀ (n i : Nat) (c : nC) (m : nM) (l4 : Option nV), nJ κ i c m → i % 100000 + n < 90000 → l < fN c 23 → (fL c 6 l).length = n → (∀ j, j < fN c 26 → (m 95 j = 0 ↔ j ∈ fL c 6 l ∧ m 69 j = m 1 0)) →
    ∃ (c' : nC) (m' : nM) (n' : Nat) (a3 : Int32) (l4' : Option nV), n' ≤ n ∧ nJ κ (i + n') c' m' ∧ fr c m c' m' ∧ (∀ j, j < fN c 26 → m' 66 j = 2 → m' 67 j = iN l → m' 1 0 < m' 69 j) ∧
      (∀ z, R1 xs nx 106 33 [some (vR 0 (some 0)), some (vI (iN l)), some (vR 23 (some l)), some (vI (iN n)), l4] [] (c, z) = R1 xs nx 106 96 [some (vR 0 (some 0)), some (vI (iN l)), some (vR 23 (some l)), some (vI a3), l4'] [] (c', z)) ∧
      ∀ c9 z, bI (R1 xs nx 207 0 [some (vR 1 (some 0)), none, none] [] (c9, m, z)) (fun x2 s1 => R1 xs nx 208 65 [some (vR 1 (some 0)), some (vI (iN l)), some (vI x2)] [] s1) hE = some (.inl none, (c9, m', z)) := by
  intro n
  induction n with
  | zero =>
    intro i c m l4 hJ hi hl hL hch
    have h26 := hJ.1.2.2.1
    have hnil : fL c 6 l = [] := List.length_eq_zero_iff.mp hL
    obtain ⟨-, -, g3⟩ := hJ.2.2.2.2.2.2.2.2.2.1
    refine ⟨c, m, 0, iN 0, l4, Nat.le_refl _, hJ, fr_refl, fun j hj w1 w2 => ?_, fun z => ?_, fun c9 z => ?_⟩
    · have := ((g3 l hl).1.1 j).mpr ⟨hj, w1, w2⟩
      rw [hnil] at this
      cases this
    · rw [d_106_33, if_neg (by decide)]
    · have hs : nSel (fun j => decide (m 95 j = 0)) (fun j x => decide (m 68 j < m 68 x)) (fN c 26) 0 none = none := by
        rcases (nSel_spec (can := fun j => decide (m 95 j = 0)) (ahead := fun j x => decide (m 68 j < m 68 x)) (fN c 26) 0 none).1 with h | ⟨k, -, -, k2, k3⟩
        · exact h
        · have := ((hch k (by omega)).mp (of_decide_eq_true k3)).1
          rw [hnil] at this
          cases this
      rw [r207 h26.2.1 h26.1, hs, bI_some, show oI none = (-1 : Int32) from rfl, d_208_65, if_pos rfl]
  | succ n ih =>
    intro i c m l4 hJ hi hl hL hch
    have h26 := hJ.1.2.2.1
    have h12 := hJ.1.1.1
    obtain ⟨-, -, g3⟩ := hJ.2.2.2.2.2.2.2.2.2.1
    obtain ⟨⟨g4, g5⟩, g6⟩ := g3 l hl
    cases hLe : fL c 6 l with
    | nil => rw [hLe] at hL; cases hL
    | cons e L' =>
      have hmem : e ∈ fL c 6 l := by rw [hLe]; exact List.mem_cons_self ..
      obtain ⟨e1, e2, e3⟩ := (g4 e).mp hmem
      obtain ⟨l', -, -, e4, e5⟩ := sty2 hJ e1 e2
      obtain ⟨l2, s1, s2, s4, s5⟩ : ∃ l2, l2 < fN c 23 ∧ m 67 e = iN l2 ∧ m 69 e = fI c 9 e 2 + fI c 23 l2 3 ∧ m 1 0 ≤ m 69 e := sty2 hJ e1 e2
      have : l2 = l := (iN_inj (by omega) (by omega)).mp (s2.symm.trans e3)
      subst this
      obtain ⟨-, -, ⟨B, -, B1, B2⟩, -⟩ := hJ.2.2.2.2.2.2.2.1 e e1
      obtain ⟨-, -, ⟨x3, H, -, H2, H3⟩, -⟩ := hJ.2.2.2.1.1 l2 hl
      have ck := (nJ_ck hJ).1
      have em : m 69 e = iN (B + H) := by rw [s4, B2, x3, H3]; exact i32_add
      have hge : ∀ j, j ∈ fL c 6 l2 → ∃ K, m 69 j = iN K ∧ B + H ≤ K ∧ K < 1000 := by
        intro j hj
        obtain ⟨j1, j2, j3⟩ := (g4 j).mp hj
        obtain ⟨l3, y1, y2, y4, y5⟩ := sty2 hJ j1 j2
        have : l3 = l2 := (iN_inj (by omega) (by omega)).mp (y2.symm.trans j3)
        subst this
        obtain ⟨-, -, ⟨B', -, B1', B2'⟩, -⟩ := hJ.2.2.2.2.2.2.2.1 j j1
        refine ⟨B' + H, by rw [y4, B2', x3, H3]; exact i32_add, ?_, by omega⟩
        rw [hLe] at hj g6
        rcases List.mem_cons.mp hj with z | z
        · subst z
          have := (iN_inj (by omega) (by omega)).mp (B2.symm.trans B2')
          omega
        · have := (List.pairwise_cons.mp g6).1 j z
          rw [B2, B2', Int32.le_iff_toInt_le, iN_toInt (by omega), iN_toInt (by omega)] at this
          omega
      have step : ∀ z, R1 xs nx 106 33 [some (vR 0 (some 0)), some (vI (iN l2)), some (vR 23 (some l2)), some (vI (iN (n + 1))), l4] [] (c, z) = if m 1 0 < m 69 e then R1 xs nx 106 96 [some (vR 0 (some 0)), some (vI (iN l2)), some (vR 23 (some l2)), some (vI (iN (n + 1))), some (vR 26 (some e))] [] (c, z) else bV (R1 xs nx 105 0 [some (vR 0 (some 0)), some (vR 26 (some e)), some (vR 23 (some l2))] [] (c, z)) (fun s4 => R1 xs nx 106 33 [some (vR 0 (some 0)), some (vI (iN l2)), some (vR 23 (some l2)), some (vI (iN (n + 1) + (-1 : Int32))), some (vR 26 (some e))] [] s4) hE := by
        intro z
        have hg : (fL c 6 l2)[(0 : Int32).toNatClampNeg]? = some e := by
          rw [hLe]
          rfl
        have hne : ¬ fL c 6 l2 = [] := by rw [hLe]; intro y; cases y
        have hlen : n + 1 ≤ 40 := by
          have := nLin_le (g3 l2 hl).1
          omega
        rw [d_106_33, if_pos (show (0 : Int32) < iN (n + 1) from (iN_lt (a := 0) (by omega) (by omega)).mpr (by omega))]
        dsimp only
        rw [if_neg hne, if_pos rfl, if_neg (by decide), hg, nn_some, ck, s4]
      by_cases hd : m 1 0 < m 69 e
      · refine ⟨c, m, 0, iN (n + 1), some (vR 26 (some e)), by omega, hJ, fr_refl, fun j hj w1 w2 => ?_, fun z => ?_, fun c9 z => ?_⟩
        · obtain ⟨K, k1, k2, k3⟩ := hge j ((g4 j).mpr ⟨hj, w1, w2⟩)
          rw [em, Int32.lt_iff_toInt_lt, iN_toInt (by omega)] at hd
          rw [k1, Int32.lt_iff_toInt_lt, iN_toInt (by omega)]
          omega
        · rw [step, if_pos hd]
        · have hs : nSel (fun j => decide (m 95 j = 0)) (fun j x => decide (m 68 j < m 68 x)) (fN c 26) 0 none = none := by
            rcases (nSel_spec (can := fun j => decide (m 95 j = 0)) (ahead := fun j x => decide (m 68 j < m 68 x)) (fN c 26) 0 none).1 with h | ⟨k, -, -, k2, k3⟩
            · exact h
            · exfalso
              obtain ⟨w1, w2⟩ := (hch k (by omega)).mp (of_decide_eq_true k3)
              obtain ⟨K, k1, k2, k3⟩ := hge k w1
              rw [em, Int32.lt_iff_toInt_lt, iN_toInt (by omega)] at hd
              rw [← w2, k1, iN_toInt (by omega)] at hd
              omega
          rw [r207 h26.2.1 h26.1, hs, bI_some, show oI none = (-1 : Int32) from rfl, d_208_65, if_pos rfl]
      · have hdue : m 69 e = m 1 0 := by
          rw [← Int32.toInt_inj]
          rw [Int32.lt_iff_toInt_lt] at hd
          rw [Int32.le_iff_toInt_le] at s5
          omega
        have hsel : nSel (fun j => decide (m 95 j = 0)) (fun j x => decide (m 68 j < m 68 x)) (fN c 26) 0 none = some e := by
          refine nSel_min e1 (decide_eq_true ((hch e e1).mpr ⟨hmem, hdue⟩)) (fun j hj hc hne => ?_)
          have hjm := ((hch j hj).mp (of_decide_eq_true hc)).1
          rw [hLe] at hjm g5
          rcases List.mem_cons.mp hjm with z | z
          · exact absurd z hne
          · have := (List.pairwise_cons.mp g5).1 j z
            refine ⟨decide_eq_true this, decide_eq_false (fun w => ?_)⟩
            rw [Int32.lt_iff_toInt_lt] at this w
            omega
        obtain ⟨c1, m1, t1, t2, t3, t4, t5, t6, t7, t8, t9⟩ := bringJ (xs := xs) (nx := nx) hJ (by omega) e1 hl e2 e3
        have hL1 : fL c1 6 l2 = L' := by rw [t3, hLe, List.erase_cons_head]
        have nd := nLin_nd (g3 l2 hl).1
        rw [hLe, List.nodup_cons] at nd
        have hN23 : fN c1 23 = fN c 23 := t2.1 23 (by decide)
        have hN26 : fN c1 26 = fN c 26 := t2.1 26 (by decide)
        have hck1 : m1 1 0 = m 1 0 := t2.2.2.2.1
        obtain ⟨c', m', n', a3, l4', u1, u2, u3, u4, u5, u6⟩ := ih (i + 1) c1 m1 (some (vR 26 (some e))) t1 (by omega) (by rw [hN23]; exact hl) (by rw [hL1]; rw [hLe] at hL; exact Nat.succ.inj hL) (fun j hj => by
          rw [hN26] at hj
          rw [hL1, hck1]
          by_cases z : j = e
          · subst z
            rw [t5]
            exact ⟨fun w => absurd w n10, fun w => absurd w.1 nd.1⟩
          · rw [t6 j z, t7 j z, hch j hj, hLe, List.mem_cons]
            exact ⟨fun w => ⟨w.1.resolve_left z, w.2⟩, fun w => ⟨Or.inr w.1, w.2⟩⟩)
        refine ⟨c', m', n' + 1, a3, l4', by omega, by rw [show i + (n' + 1) = i + 1 + n' by omega]; exact u2, fr_trans t2 u3, fun j hj w1 w2 => u4 j (by rw [hN26]; exact hj) w1 w2, fun z => ?_, fun c9 z => ?_⟩
        · have hlen : n + 1 ≤ 40 := by
            have := nLin_le (g3 l2 hl).1
            omega
          rw [step, if_neg hd, t8 z, bV_none, iN_m1, iN_sub1 (by omega)]
          exact u5 z
        · rw [r207 h26.2.1 h26.1, hsel, bI_some, show oI (some e) = iN e from rfl, t9, d_208_150]
          exact u6 c9 z
/-- the reference marks those of a lane that come now -/
theorem mark208 {N l : Nat} {m : nM} (hN : m 1 24 = iN N) (h40 : N ≤ 40) : ∃ m', (∀ t, t ≠ 95 → m' t = m t) ∧ (∀ j, j < N → (m' 95 j = 0 ↔ m 66 j = 2 ∧ m 67 j = iN l ∧ m 69 j = m 1 0)) ∧ (∀ i c m0, nJ κ i c m → m0 = m → nJ κ i c m') ∧
    ∀ c9 z, R1 xs nx 208 0 [some (vR 1 (some 0)), some (vI (iN l)), none] [] (c9, m, z) = bI (R1 xs nx 207 0 [some (vR 1 (some 0)), none, none] [] (c9, m', z)) (fun x2 s1 => R1 xs nx 208 65 [some (vR 1 (some 0)), some (vI (iN l)), some (vI x2)] [] s1) hE := by
  have key : ∀ (n i : Nat) (m : nM), i + n = N → m 1 24 = iN N → (∀ j, j < i → (m 95 j = 0 ↔ m 66 j = 2 ∧ m 67 j = iN l ∧ m 69 j = m 1 0)) → ∃ m', (∀ t, t ≠ 95 → m' t = m t) ∧ (∀ j, j < N → (m' 95 j = 0 ↔ m 66 j = 2 ∧ m 67 j = iN l ∧ m 69 j = m 1 0)) ∧ (∀ i c, nJ κ i c m → nJ κ i c m') ∧
      ∀ c9 z, R1 xs nx 208 2 [some (vR 1 (some 0)), some (vI (iN l)), some (vI (iN i))] [] (c9, m, z) = bI (R1 xs nx 207 0 [some (vR 1 (some 0)), none, none] [] (c9, m', z)) (fun x2 s1 => R1 xs nx 208 65 [some (vR 1 (some 0)), some (vI (iN l)), some (vI x2)] [] s1) hE := by
    intro n
    induction n with
    | zero =>
      intro i m e hN hm
      have hn : ¬ iN i < iN N := by rw [iN_lt (by omega) (by omega)]; omega
      refine ⟨m, fun _ _ => rfl, fun j hj => hm j (by omega), fun _ _ h => h, fun c9 z => ?_⟩
      rw [d_208_2]
      dsimp only
      simp only [hN]
      rw [if_neg hn]
    | succ n ih =>
      intro i m e hN hm
      have hlt : iN i < iN N := (iN_lt (by omega) (by omega)).mpr (by omega)
      have hin : mIn (iN i) 40 = true := iN_in40 (by omega)
      have en : (iN i).toNatClampNeg = i := i32_nat (by omega)
      have go : ∀ x : Int32, (x = 0 ∨ x = 1) → ((x = 0) ↔ m 66 i = 2 ∧ m 67 i = iN l ∧ m 69 i = m 1 0) → (∀ c9 z, R1 xs nx 208 2 [some (vR 1 (some 0)), some (vI (iN l)), some (vI (iN i))] [] (c9, m, z) = R1 xs nx 208 53 [some (vR 1 (some 0)), some (vI (iN l)), some (vI (iN i))] [(vI x), (vI (iN i)), (vR 95 (some 0))] (c9, m, z)) → _ := fun x hx hx2 hr => by
        show ∃ m', (∀ t, t ≠ 95 → m' t = m t) ∧ (∀ j, j < N → (m' 95 j = 0 ↔ m 66 j = 2 ∧ m 67 j = iN l ∧ m 69 j = m 1 0)) ∧ (∀ i c, nJ κ i c m → nJ κ i c m') ∧
          ∀ c9 z, R1 xs nx 208 2 [some (vR 1 (some 0)), some (vI (iN l)), some (vI (iN i))] [] (c9, m, z) = bI (R1 xs nx 207 0 [some (vR 1 (some 0)), none, none] [] (c9, m', z)) (fun x2 s1 => R1 xs nx 208 65 [some (vR 1 (some 0)), some (vI (iN l)), some (vI x2)] [] s1) hE
        obtain ⟨m', t1, t2, t3, t4⟩ := ih (i + 1) (uM 95 i x m) (by omega) (by rw [uM_ne (by decide)]; exact hN) (fun j hj => by
          simp (disch := decide) only [uM_ne]
          by_cases z : j = i
          · subst z; rw [uM_kk]; exact hx2
          · rw [uM_k z]; exact hm j (by omega))
        refine ⟨m', fun t ht => by rw [t1 t ht, uM_ne ht], fun j hj => ?_, fun i' c h => t3 i' c (nJ_95 h), fun c9 z => ?_⟩
        · have := t2 j hj
          simp (disch := decide) only [uM_ne] at this
          exact this
        · rw [hr, d_208_53, if_pos ⟨hin, hx⟩, en, iN_add1]
          exact t4 c9 z
      by_cases q : m 66 i = 2 ∧ m 67 i = iN l ∧ m 69 i = m 1 0
      · refine go 0 (Or.inl rfl) ⟨fun _ => q, fun _ => rfl⟩ (fun c9 z => ?_)
        rw [d_208_2]
        dsimp only
        simp only [hN, hlt, hin, en, if_true, q.1, q.2.1, q.2.2]
      · refine go 1 (Or.inr rfl) ⟨fun z => absurd z n10, fun z => absurd z q⟩ (fun c9 z => ?_)
        rw [d_208_2]
        dsimp only
        simp only [hN, hlt, hin, en, if_true]
        by_cases q1 : m 66 i = 2
        · rw [if_pos q1]
          by_cases q2 : m 67 i = iN l
          · rw [if_pos q2, if_neg (fun q3 => q ⟨q1, q2, q3⟩), d_208_48]
          · rw [if_neg q2, d_208_48]
        · rw [if_neg q1, d_208_48]
  obtain ⟨m', t1, t2, t3, t4⟩ := key N 0 m (Nat.zero_add _) hN (fun j hj => by omega)
  exact ⟨m', t1, t2, fun i c m0 h _ => t3 i c h, fun c9 z => by rw [d_208_0]; exact t4 c9 z⟩
/-- the trailers of all lanes -/
theorem arrA : ∀ (n l i : Nat) (c : nC) (m : nM) (l2 l3 l4 : Option nV), l + n = fN c 23 → nJ κ i c m → i % 100000 + 40 * n < 90000 → (∀ j l', j < fN c 26 → m 66 j = 2 → m 67 j = iN l' → l' < l → m 1 0 < m 69 j) →
    ∃ (c' : nC) (m' : nM) (n' : Nat), n' ≤ 40 * n ∧ nJ κ (i + n') c' m' ∧ fr c m c' m' ∧ (∀ j, j < fN c 26 → m' 66 j = 2 → m' 1 0 < m' 69 j) ∧
      (∀ z, R1 xs nx 106 2 [some (vR 0 (some 0)), some (vI (iN l)), l2, l3, l4] [] (c, z) = some (.inl none, (c', z))) ∧
      ∀ c9 z, R1 xs nx 222 12 [some (vR 1 (some 0)), some (vI (iN l))] [] (c9, m, z) = R1 xs nx 222 12 [some (vR 1 (some 0)), some (vI (iN (fN c 23)))] [] (c9, m', z) := by
  intro n
  induction n with
  | zero =>
    intro l i c m l2 l3 l4 e hJ hi hs
    have c1 := hJ.1.1
    have : l = fN c 23 := by omega
    subst this
    refine ⟨c, m, 0, Nat.le_refl _, hJ, fr_refl, fun j hj w => ?_, fun z => ?_, fun c9 z => rfl⟩
    · obtain ⟨l', y1, y2, -⟩ := sty2 hJ hj w
      exact hs j l' hj w y2 y1
    · have hn : ¬ iN (fN c 23) < iN (fN c 23) := by rw [iN_lt (by omega) (by omega)]; omega
      rw [d_106_2]
      dsimp only
      rw [c1.2.2, List.length_range, if_neg hn]
  | succ n ih =>
    intro l i c m l2 l3 l4 e hJ hi hs
    have c1 := hJ.1.1
    have h26 := hJ.1.2.2.1
    have hl : l < fN c 23 := by omega
    have hlt : iN l < iN (fN c 23) := (iN_lt (by omega) (by omega)).mpr hl
    obtain ⟨m0, a1, a2, a3, a4⟩ := mark208 (xs := xs) (nx := nx) (l := l) (m := m) h26.2.1 h26.1
    have hJ0 := a3 i c m hJ rfl
    obtain ⟨-, -, g3⟩ := hJ0.2.2.2.2.2.2.2.2.2.1
    have hlen : (fL c 6 l).length ≤ 40 := by
      have := nLin_le (g3 l hl).1
      omega
    obtain ⟨c1', m1, n1, a3', l4', b1, b2, b3, b4, b5, b6⟩ := arrL (xs := xs) (nx := nx) (l := l) (fL c 6 l).length i c m0 l4 hJ0 (by omega) hl rfl (fun j hj => by
      rw [a2 j hj, (g3 l hl).1.1 j, a1 66 (by decide), a1 67 (by decide), a1 69 (by decide), a1 1 (by decide)]
      exact ⟨fun w => ⟨⟨hj, w.1, w.2.1⟩, w.2.2⟩, fun w => ⟨w.1.2.1, w.1.2.2, w.2⟩⟩)
    have f0 : fr c m c m0 := by
      refine ⟨fun _ _ => rfl, fun _ => rfl, fun _ _ => rfl, by rw [a1 1 (by decide)], by rw [a1 1 (by decide)], by rw [a1 1 (by decide)], a1 31 (by decide), fun k hk => ?_⟩
      rw [a1 66 (by decide)] at hk
      rw [a1 67 (by decide), a1 69 (by decide)]
      exact Or.inl ⟨hk, rfl, rfl⟩
    have f1 := fr_trans f0 b3
    have hN23 : fN c1' 23 = fN c 23 := f1.1 23 (by decide)
    have hN26 : fN c1' 26 = fN c 26 := f1.1 26 (by decide)
    obtain ⟨c', m', n', t1, t2, t3, t4, t5, t6⟩ := ih (l + 1) (i + n1) c1' m1 (some (vR 23 (some l))) (some (vI a3')) l4' (by rw [hN23]; omega) b2 (by omega) (fun j l' hj w1 w2 w3 => by
      rw [hN26] at hj
      by_cases z : l' = l
      · subst z; exact b4 j hj w1 w2
      · rcases f1.2.2.2.2.2.2.2 j w1 with ⟨y1, y2, y3⟩ | y
        · rw [f1.2.2.2.1, y3]
          exact hs j l' hj y1 (y2.symm.trans w2) (by omega)
        · rw [f1.2.2.2.1]
          exact y)
    refine ⟨c', m', n1 + n', by omega, by rw [← Nat.add_assoc]; exact t2, fr_trans f1 t3, fun j hj => t4 j (by rw [hN26]; exact hj), fun z => ?_, fun c9 z => ?_⟩
    · rw [d_106_2]
      dsimp only
      rw [c1.2.2, List.length_range, if_pos hlt, if_neg (iN_pos (by omega)), i32_nat (by omega), List.getElem?_range hl, nn_some]
      rw [show R1 xs nx 106 33 [some (vR 0 (some 0)), some (vI (iN l)), some (vR 23 (some l)), some (vI (Int32.ofNat (fL c 6 l).length)), l4] [] (c, z) = _ from b5 z, d_106_96, iN_add1]
      exact t5 z
    · rw [d_222_12]
      dsimp only
      simp only [c1.2.1]
      rw [if_pos hlt, a4, b6, bV_none, iN_add1, t6, hN23]
end OQI
end KAP
