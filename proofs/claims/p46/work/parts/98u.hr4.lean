/-! ===== an hour: one parcel is sorted ===== -/
section KAP
variable {κ : kP}
section OQM
variable {xs : Nat → Int32} {nx : Nat}
/-- a parcel is no longer fresh -/
theorem freshJ {i k : Nat} {c : nC} {m : nM} (hJ : nJ κ i c m) (hk : k < fN c 26) : nJ κ i (uI 26 k 17 0 c) (uM 62 k 0 m) := by
  have hP := hJ.2.2.2.2.2.1 k hk
  have hM := hJ.2.2.2.2.2.2.2.2.2.2.1 k hk
  refine nJ_par (k := k) hJ (fun t t1 t2 => fI_ne t1) (fun t t1 => rfl) (fun t t1 => rfl) rfl (fun t x j h => fI_n h) (fun t x j h => rfl) (fun t x j h => rfl) (fun t h => by rw [uM_ne (by omega)]) (fun t x h => by rw [uM_k h]) hk ?_ ?_ ?_ ?_
  · obtain ⟨y1, y2, y3, y4, y5, y6, y7, y8, y9, y10, y11, y12, y13, y14, y15, y16, y17, y18⟩ := hP
    unfold nPar
    simp (disch := decide) only [fI_k, fX_k, fP_k, fI_uP, fI_uX, fX_uP, fX_uI, fP_uX, fP_uI, fI_ne, uM_ne, uM1_ne, uM_kk]
    exact ⟨y1, y2, y3, y4, y5, y6, y7, y8, y9, y10, y11, y12, y13, y14, y15, ⟨by trivial, Or.inl rfl⟩, y17, y18⟩
  · unfold nMon at hM ⊢
    simp (disch := decide) only [fI_ne, uM_ne, uM_kk]
    obtain ⟨y1, y2, y3, y4, y5, y6, y7⟩ := hM
    exact ⟨y1, y2, y3, y4, y5, fun z => absurd z (by decide), y7⟩
  · exact Or.inl ⟨by simp (disch := decide) only [uM_ne], by simp (disch := decide) only [uM_ne]⟩
  · exact Or.inl ⟨by simp (disch := decide) only [uM_ne], by simp (disch := decide) only [uM_ne], by simp (disch := decide) only [uM_ne], by simp (disch := decide) only [uM_ne]⟩
/-- the target's depot in the reference -/
theorem tgt45 {i k D : Nat} {c : nC} {m : nM} (hJ : nJ κ i c m) (hk : k < fN c 26) (eD : D = fX c 24 (if m 63 k = 0 then fX c 26 k 10 else fX c 26 k 1) 0) : iN D = m 45 (if m 63 k = 0 then m 52 k else m 51 k).toNatClampNeg := by
  obtain ⟨-, -, ⟨p1, p2⟩, ⟨p3, p4⟩, -⟩ := hJ.2.2.2.2.2.1 k hk
  have hA := hJ.2.2.2.2.1.1
  have hN := hJ.1.2.1.1
  rw [eD]
  by_cases q : m 63 k = 0
  · rw [if_pos q, if_pos q, p4, i32_nat (by omega), (hA _ p3).1.2]
  · rw [if_neg q, if_neg q, p2, i32_nat (by omega), (hA _ p1).1.2]
theorem mvL {i k : Nat} {c : nC} {m : nM} (hJ : nJ κ i c m) (hk : k < fN c 26) {w a ck : Int32} {D : Option Nat} {q : Option (Nat × Nat)} (hq : ∀ p, q = some p → p.1 = 3 ∨ p.1 = 5 ∨ p.1 = 6) {t : Nat} (h3 : t ≠ 3) (h5 : t ≠ 5) (h6 : t ≠ 6) : fL (cMv k w a D q ck c) t = fL c t := by
  funext l
  rw [cMv_L, if_neg, cOut_L, if_neg]
  · intro z
    rcases (nJ_q hJ hk).1 _ z with e | e | e
    · exact h3 e
    · exact h5 e
    · exact h6 e
  · intro z
    rcases hq _ z with e | e | e
    · exact h3 e
    · exact h5 e
    · exact h6 e
/-- how many stand in a row -/
theorem row206 {i l : Nat} {c : nC} {m : nM} (hJ : nJ κ i c m) (hl : l < fN c 23) {M : nM} (h24 : M 1 24 = m 1 24) (h66 : M 66 = m 66) (h67 : M 67 = m 67) : ∀ c9 z, R1 xs nx 206 0 [some (vR 1 (some 0)), some (vI (1 : Int32)), some (vI (iN l)), none, none] [] (c9, M, z) = some (.inl (some (vI (iN (fL c 5 l).length))), (c9, M, z)) := by
  intro c9 z
  have h26 := hJ.1.2.2.1
  obtain ⟨-, g2, -⟩ := hJ.2.2.2.2.2.2.2.2.2.1
  rw [many206 (P := fN c 26) (by show M 1 24 = _; rw [h24]; exact h26.2.1) h26.1]
  show (some (Sum.inl (some (vI (iN ((List.range' 0 (fN c 26)).filter fun k => decide (M 66 k = 1 ∧ M 67 k = iN l)).length))), (c9, M, z)) : Option nOut) = _
  rw [h66, h67, nLin_len (g2 l hl)]
theorem sortJ {i e d h : Nat} {c : nC} {m : nM} (hJ : nJ κ i c m) (hi : i % 100000 < 90000) (hk : e < fN c 26) (h0 : m 66 e = 0) (hd : d < 5) (ck : m 1 0 = iN h) (hh : h < 1000) :
    ∃ c' m', nJ κ (i + 1) c' m' ∧ fr c m c' m' ∧ fL c' 20 = fL c 20 ∧ m' 54 = m 54 ∧ m' 95 e = 1 ∧ (∀ t j, j ≠ e → t ≠ 1 → t ≠ 32 → t ≠ 33 → (t < 91 ∨ 94 < t) → m' t j = m t j) ∧
      (∀ z, R1 xs nx 113 0 [some (vR 0 (some 0)), some (vR 26 (some e)), some (vR 21 (some d)), none, none] [] (c, z) = some (.inl none, (c', z))) ∧
      ∀ b l5 l6, b < 1000 → ∃ x5 x6 : Int32, ∀ c9 z, R1 xs nx 210 92 [some (vR 1 (some 0)), some (vI (iN d)), some (vI (iN (b + 1))), some (vI ((iN h - iN h / 24 * 24) / 12)), some (vI (iN e)), l5, l6] [] (c9, m, z) = R1 xs nx 210 247 [some (vR 1 (some 0)), some (vI (iN d)), some (vI (iN b)), some (vI ((iN h - iN h / 24 * 24) / 12)), some (vI (iN e)), some (vI x5), some (vI x6)] [] (c9, m', z) := by
  have h40 := k40 hJ hk
  have h12 := hJ.1.1.1
  have kin : mIn (iN e) 40 = true := iN_in40 h40
  have ken : (iN e).toNatClampNeg = e := i32_nat (by omega)
  have hJ1 := freshJ (nJ_95 (j := e) (x := 1) hJ) hk
  have f1 : fr c m (uI 26 e 17 0 c) (uM 62 e 0 (uM 95 e 1 m)) := fr_trans (fr_uI (t := 26) (by decide)) (fr_trans (fr_uM (t := 95) (by decide)) (fr_uM (t := 62) (by decide)))
  have r1 : ∀ t, t ≠ 62 → t ≠ 95 → uM 62 e 0 (uM 95 e 1 m) t = m t := fun t t1 t2 => by rw [uM_ne t1, uM_ne t2]
  have r2 : uM 62 e 0 (uM 95 e 1 m) 95 e = 1 := by rw [uM_ne (by decide), uM_kk]
  have r3 : ∀ t j, j ≠ e → uM 62 e 0 (uM 95 e 1 m) t j = m t j := fun t j hj => by rw [uM_k hj, uM_k hj]
  have r4 : uM 62 e 0 (uM 95 e 1 m) 62 e = 0 := uM_kk
  have c1 : ∀ t, fL (uI 26 e 17 0 c) t = fL c t := fun t => rfl
  have cN : fN (uI 26 e 17 0 c) = fN c := rfl
  have start : ∀ b l5 l6 c9 z D, b < 1000 → R1 xs nx 202 0 [some (vR 1 (some 0)), some (vI (iN e))] [] (c9, uM 62 e 0 (uM 95 e 1 m), z) = some (.inl (some (vI (iN D))), (c9, uM 62 e 0 (uM 95 e 1 m), z)) →
      R1 xs nx 210 92 [some (vR 1 (some 0)), some (vI (iN d)), some (vI (iN (b + 1))), some (vI ((iN h - iN h / 24 * 24) / 12)), some (vI (iN e)), l5, l6] [] (c9, m, z) = if iN D = iN d then R1 xs nx 210 151 [some (vR 1 (some 0)), some (vI (iN d)), some (vI (iN b)), some (vI ((iN h - iN h / 24 * 24) / 12)), some (vI (iN e)), some (vI (iN D)), l6] [(vI (-1))] (c9, uM 62 e 0 (uM 95 e 1 m), z) else bI (R1 xs nx 185 0 [some (vI (iN d)), some (vI (iN D)), some (vI ((iN h - iN h / 24 * 24) / 12))] [] (c9, uM 62 e 0 (uM 95 e 1 m), z)) (fun x4 s3 => if mIn x4 50 = true then R1 xs nx 210 151 [some (vR 1 (some 0)), some (vI (iN d)), some (vI (iN b)), some (vI ((iN h - iN h / 24 * 24) / 12)), some (vI (iN e)), some (vI (iN D)), l6] [(vI (s3.2.1 34 x4.toNatClampNeg))] s3 else none) hE := by
    intro b l5 l6 c9 z D hb hr
    have hpos : (0 : Int32) < iN (b + 1) := (iN_lt (a := 0) (by omega) (by omega)).mpr (by omega)
    rw [d_210_92, if_neg (iN_ne1 (by omega)), if_pos hpos, if_pos ⟨kin, Or.inr rfl⟩, if_pos ⟨kin, Or.inl rfl⟩, ken]
    dsimp only
    rw [hr, bI_some, iN_m1, iN_sub1 hb]
  obtain ⟨D, hD, eD, d1, d2⟩ := tgt64 (xs := xs) (nx := nx) (k := e) hJ1 hk
  have e45 := tgt45 hJ1 hk eD
  have y15 := (hJ1.2.2.2.2.2.1 e hk).2.2.2.2.2.2.2.2.2.2.2.2.2.2.1
  have ck1 := (nJ_ck hJ1).1
  have ckm : uM 62 e 0 (uM 95 e 1 m) 1 0 = iN h := by rw [r1 1 (by decide) (by decide)]; exact ck
  have e4 : uM 62 e 0 (uM 95 e 1 m) 66 e ≠ 4 := by rw [r1 66 (by decide) (by decide), h0]; decide
  have e7 : uM 62 e 0 (uM 95 e 1 m) 66 e ≠ 7 := by rw [r1 66 (by decide) (by decide), h0]; decide
  have hf : uM 62 e 0 (uM 95 e 1 m) 62 e ≠ 1 := by rw [r4]; decide
  obtain ⟨b1, b2⟩ := nJ_69 hJ1
  generalize hM0 : uM 62 e 0 (uM 95 e 1 m) = M0 at hJ1 f1 r1 r2 r3 r4 start eD d2 e45 y15 ck1 ckm e4 e7 hf b1 b2
  generalize hC0 : uI 26 e 17 0 c = C0 at hJ1 f1 c1 cN eD d1 y15 ck1 b1 b2
  have hk1 : e < fN C0 26 := by rw [cN]; exact hk
  by_cases q : D = d
  · subst q
    cases hq : fP C0 26 e 11 with
    | none =>
      rw [hq] at y15
      have y15 : M0 60 e = -1 := y15
      have hp := nJ_73 (k := e) (x := 0) (put3 hJ1 hi hk1 e4 e7 hd hf ⟨y15, e45⟩) (by rw [mMv_66]; decide)
      obtain ⟨c', t1, t2, t3⟩ := noteJ (xs := xs) (nx := nx) (k := e) (a := 1) hp (by rw [cMv_N]; exact hk1) hd ⟨1, by omega, by omega, rfl⟩
      refine ⟨c', _, t1, fr_trans (fr_trans (fr_trans f1 (fr_mv (w := 3) (by decide))) (fr_uM (t := 73) (by decide))) (fr_sc t2), ?_, ?_, ?_, fun t j hj x1 x2 x3 x4 => ?_, fun z => ?_, fun b l5 l6 hb => ⟨iN D, -1, fun c9 z => ?_⟩⟩
      · rw [t2.2.2.2.2.1 20 (by decide) (by decide), mvL hJ1 hk1 (by intro p hp; cases hp) (by decide) (by decide) (by decide), c1]
      · rw [scM_ne (by decide), uM_ne (by decide), mMv_ne (by decide), r1 54 (by decide) (by decide)]
      · rw [scM_ne (by decide), uM_ne (by decide), mMv_ne (by decide), r2]
      · rw [scM_ne ⟨x1, x2, x3, x4⟩, uM_k hj, mMv_k x1 hj, r3 t j hj]
      · rw [d_113_0]
        dsimp only
        rw [hC0, d1 z, bR_some, if_pos rfl]
        dsimp only
        rw [hq, nz_none, d_112_0]
        show bV (bV (R1 xs nx 57 0 [some (vR 26 (some e)), some (vI (3 : Int32)), some (vI (iN D)), some (vR 21 (some D)), some (vL none), some (vI (fI C0 0 0 9)), none, none] [] (C0, z)) _ _) _ _ = _
        rw [mvR hJ1 hk1 (Or.inl rfl), ck1, bV_none, bV_none, d_113_100, t3 z, bV_none]
      · rw [start b l5 l6 c9 z D hb (d2 c9 M0 z rfl rfl rfl rfl), if_pos rfl, d_210_151, if_pos rfl, r193 (B := (fL C0 19 0).length) hd b1 b2, bV_none, if_pos kin, ken]
        dsimp only
        rw [if_pos (by rw [scM_ne (by decide)]; exact y15), d_210_187, r190 h40, bV_none, if_pos ⟨kin, Or.inl rfl⟩, ken]
        dsimp only
        rw [scM_mMv, ← scM_uM (by omega)]
    | some a =>
      rw [hq] at y15
      obtain ⟨ha, y60⟩ : a < fN C0 24 ∧ M0 60 e = iN a := y15
      have hA := hJ1.1.2.1.1
      have hne : ¬ M0 60 e = -1 := by rw [y60]; exact iN_ne1 (by omega)
      have hp := put6 (b := 0) (Or.inl rfl) hJ1 hi hk1 e4 e7 hd hf
      obtain ⟨c', t1, t2, t3⟩ := noteJ (xs := xs) (nx := nx) (k := e) (a := 1) hp (by rw [fN_uI, cMv_N]; exact hk1) hd ⟨1, by omega, by omega, rfl⟩
      refine ⟨c', _, t1, fr_trans (fr_trans (fr_trans f1 (fr_mv (w := 6) (by decide))) (fr_trans (fr_uI (t := 9) (by decide)) (fr_uM (t := 73) (by decide)))) (fr_sc t2), ?_, ?_, ?_, fun t j hj x1 x2 x3 x4 => ?_, fun z => ?_, fun b l5 l6 hb => ⟨iN D, -1, fun c9 z => ?_⟩⟩
      · rw [t2.2.2.2.2.1 20 (by decide) (by decide), fL_uI, mvL hJ1 hk1 (by intro p hp; cases hp) (by decide) (by decide) (by decide), c1]
      · rw [scM_ne (by decide), uM_ne (by decide), mMv_ne (by decide), r1 54 (by decide) (by decide)]
      · rw [scM_ne (by decide), uM_ne (by decide), mMv_ne (by decide), r2]
      · rw [scM_ne ⟨x1, x2, x3, x4⟩, uM_k hj, mMv_k x1 hj, r3 t j hj]
      · rw [d_113_0]
        dsimp only
        rw [hC0, d1 z, bR_some, if_pos rfl]
        dsimp only
        rw [hq, nz_some, d_104_0]
        show bV (bV (R1 xs nx 57 0 [some (vR 26 (some e)), some (vI (6 : Int32)), some (vI (iN D)), some (vR 21 (some D)), some (vL none), some (vI (fI C0 0 0 9)), none, none] [] (C0, z)) _ _) _ _ = _
        rw [mvR hJ1 hk1 (Or.inl rfl), ck1, bV_none, if_pos (Or.inl rfl), bV_none, d_113_100]
        try dsimp only
        rw [t3 z, bV_none]
      · rw [start b l5 l6 c9 z D hb (d2 c9 M0 z rfl rfl rfl rfl), if_pos rfl, d_210_151, if_pos rfl, r193 (B := (fL C0 19 0).length) hd b1 b2, bV_none, if_pos kin, ken]
        dsimp only
        rw [if_neg (by rw [scM_ne (by decide)]; exact hne), d_210_187, r190 h40, bV_none, if_pos ⟨kin, Or.inl rfl⟩, ken]
        dsimp only
        rw [scM_mMv, ← scM_uM (by omega)]
  · have qs : ¬ (some D : Option Nat) = some d := fun z => q (Option.some.inj z)
    have qi : ¬ iN D = iN d := by rw [iN_inj (by omega) (by omega)]; exact q
    obtain ⟨x, x2, p1, p2, p3⟩ := pl46 (xs := xs) (nx := nx) hJ1 hd hD (show h < 90000 by omega)
    have hln := (hJ1.2.2.1 d hd).2.2.2.2.2 (2 * D + x) (by omega)
    have i50 : mIn (iN (10 * d + (2 * D + x))) 50 = true := iN_in (by omega) (by omega)
    have n50 : (iN (10 * d + (2 * D + x))).toNatClampNeg = 10 * d + (2 * D + x) := i32_nat (by omega)
    have startN : ∀ b l5 l6 c9 z, b < 1000 → R1 xs nx 210 92 [some (vR 1 (some 0)), some (vI (iN d)), some (vI (iN (b + 1))), some (vI ((iN h - iN h / 24 * 24) / 12)), some (vI (iN e)), l5, l6] [] (c9, m, z) = R1 xs nx 210 151 [some (vR 1 (some 0)), some (vI (iN d)), some (vI (iN b)), some (vI ((iN h - iN h / 24 * 24) / 12)), some (vI (iN e)), some (vI (iN D)), l6] [(vI (M0 34 (10 * d + (2 * D + x))))] (c9, M0, z) := by
      intro b l5 l6 c9 z hb
      rw [start b l5 l6 c9 z D hb (d2 c9 M0 z rfl rfl rfl rfl), if_neg qi, p3, bI_some, if_pos i50, n50]
    have classN : ∀ z, R1 xs nx 113 0 [some (vR 0 (some 0)), some (vR 26 (some e)), some (vR 21 (some d)), none, none] [] (c, z) = nz (fP C0 4 d (2 * D + x)) (R1 xs nx 113 47 [some (vR 0 (some 0)), some (vR 26 (some e)), some (vR 21 (some d)), some (vR 21 (some D)), some (vR 23 (fP C0 4 d (2 * D + x)))] [] (C0, z)) (nn (fP C0 4 d (2 * D + x)) fun k9 => if (Int32.ofNat (fL C0 5 k9).length) < (20 : Int32) then nn (fP C0 4 d (2 * D + x)) fun k10 => nn (fP C0 4 d (2 * D + x)) fun k11 => bV (R1 xs nx 57 0 [some (vR 26 (some e)), some (vI (1 : Int32)), some (vI (Int32.ofNat k10)), some (vR 21 (some d)), some (vL (some (5, k11))), some (vI (fI C0 0 0 9)), none, none] [] (C0, z)) (fun s12 => R1 xs nx 113 100 [some (vR 0 (some 0)), some (vR 26 (some e)), some (vR 21 (some d)), some (vR 21 (some D)), some (vR 23 (fP C0 4 d (2 * D + x)))] [] s12) hE else R1 xs nx 113 47 [some (vR 0 (some 0)), some (vR 26 (some e)), some (vR 21 (some d)), some (vR 21 (some D)), some (vR 23 (fP C0 4 d (2 * D + x)))] [] (C0, z)) := by
      intro z
      rw [d_113_0]
      dsimp only
      rw [hC0, d1 z, bR_some, if_neg qs]
      show bI (R1 xs nx 111 0 [some (vI (fI C0 0 0 9))] [] (C0, z)) _ _ = _
      rw [show R1 xs nx 111 0 [some (vI (fI C0 0 0 9))] [] (C0, z) = (some (Sum.inl (some (vI (iN x))), (C0, z)) : Option nOut) from by rw [ck1, ckm]; exact p1 _, bI_some, p2 z, bR_some]
    have again : (∀ z, R1 xs nx 113 0 [some (vR 0 (some 0)), some (vR 26 (some e)), some (vR 21 (some d)), none, none] [] (c, z) = R1 xs nx 113 47 [some (vR 0 (some 0)), some (vR 26 (some e)), some (vR 21 (some d)), some (vR 21 (some D)), some (vR 23 (fP C0 4 d (2 * D + x)))] [] (C0, z)) →
        (∀ b l5 l6, b < 1000 → ∃ l6', ∀ c9 z, R1 xs nx 210 92 [some (vR 1 (some 0)), some (vI (iN d)), some (vI (iN (b + 1))), some (vI ((iN h - iN h / 24 * 24) / 12)), some (vI (iN e)), l5, l6] [] (c9, m, z) = R1 xs nx 210 240 [some (vR 1 (some 0)), some (vI (iN d)), some (vI (iN b)), some (vI ((iN h - iN h / 24 * 24) / 12)), some (vI (iN e)), some (vI (iN D)), some (vI l6')] [] (c9, M0, z)) → _ := fun hc hm => by
      show ∃ c' m', nJ κ (i + 1) c' m' ∧ fr c m c' m' ∧ fL c' 20 = fL c 20 ∧ m' 54 = m 54 ∧ m' 95 e = 1 ∧ (∀ t j, j ≠ e → t ≠ 1 → t ≠ 32 → t ≠ 33 → (t < 91 ∨ 94 < t) → m' t j = m t j) ∧
        (∀ z, R1 xs nx 113 0 [some (vR 0 (some 0)), some (vR 26 (some e)), some (vR 21 (some d)), none, none] [] (c, z) = some (.inl none, (c', z))) ∧
        ∀ b l5 l6, b < 1000 → ∃ x5 x6 : Int32, ∀ c9 z, R1 xs nx 210 92 [some (vR 1 (some 0)), some (vI (iN d)), some (vI (iN (b + 1))), some (vI ((iN h - iN h / 24 * 24) / 12)), some (vI (iN e)), l5, l6] [] (c9, m, z) = R1 xs nx 210 247 [some (vR 1 (some 0)), some (vI (iN d)), some (vI (iN b)), some (vI ((iN h - iN h / 24 * 24) / 12)), some (vI (iN e)), some (vI x5), some (vI x6)] [] (c9, m', z)
      refine ⟨_, _, put0 hJ1 hi hk1 e4 e7 hd, fr_trans f1 (fr_mv (w := 0) (by decide)), ?_, ?_, ?_, fun t j hj x1 x2 x3 x4 => ?_, fun z => ?_, fun b l5 l6 hb => ?_⟩
      · rw [mvL hJ1 hk1 (by intro p hp; cases hp; exact Or.inl rfl) (by decide) (by decide) (by decide), c1]
      · rw [mMv_ne (by decide), r1 54 (by decide) (by decide)]
      · rw [mMv_ne (by decide), r2]
      · rw [mMv_k x1 hj, r3 t j hj]
      · rw [hc, d_113_47, r94 hJ1 hk1 hd, bV_none]
      · obtain ⟨l6', hm⟩ := hm b l5 l6 hb
        refine ⟨iN D, l6', fun c9 z => ?_⟩
        rw [hm, d_210_240, r191 h40, bV_none]
    cases ho : fP C0 4 d (2 * D + x) with
    | none =>
      rw [ho] at hln
      have hln : M0 34 (10 * d + (2 * D + x)) = -1 := hln
      refine again (fun z => by rw [classN, ho, nz_none]) (fun b l5 l6 hb => ⟨-1, fun c9 z => ?_⟩)
      rw [startN b l5 l6 c9 z hb, hln, d_210_151, if_neg qi, if_pos rfl]
    | some l =>
      rw [ho] at hln
      obtain ⟨hl, hld, e34⟩ : l < fN C0 23 ∧ fX C0 23 l 1 = d ∧ M0 34 (10 * d + (2 * D + x)) = iN l := hln
      have hl12 : l < 12 := by have := hJ1.1.1.1; omega
      have hlen : (fL C0 5 l).length ≤ 40 := by
        obtain ⟨-, g2, -⟩ := hJ1.2.2.2.2.2.2.2.2.2.1
        have := nLin_le (g2 l hl)
        have := hJ1.1.2.2.1.1
        omega
      have h206 := row206 (xs := xs) (nx := nx) hJ1 hl (M := M0) rfl rfl rfl
      have h20 : iN (fL C0 5 l).length < (20 : Int32) ↔ (fL C0 5 l).length < 20 := iN_lt (b := 20) (by omega) (by omega)
      by_cases q20 : (fL C0 5 l).length < 20
      · have hp := put1 hJ1 hi hk1 e4 e7 hl hf q20
        rw [hld] at hp
        obtain ⟨c', t1, t2, t3⟩ := noteJ (xs := xs) (nx := nx) (k := e) (a := 1) hp (by rw [cMv_N]; exact hk1) hd ⟨1, by omega, by omega, rfl⟩
        refine ⟨c', _, t1, fr_trans (fr_trans f1 (fr_mv (w := 1) (by decide))) (fr_sc t2), ?_, ?_, ?_, fun t j hj x1 x2 x3 x4 => ?_, fun z => ?_, fun b l5 l6 hb => ⟨iN D, iN l, fun c9 z => ?_⟩⟩
        · rw [t2.2.2.2.2.1 20 (by decide) (by decide), mvL hJ1 hk1 (by intro p hp; cases hp; exact Or.inr (Or.inl rfl)) (by decide) (by decide) (by decide), c1]
        · rw [scM_ne (by decide), mMv_ne (by decide), r1 54 (by decide) (by decide)]
        · rw [scM_ne (by decide), mMv_ne (by decide), r2]
        · rw [scM_ne ⟨x1, x2, x3, x4⟩, mMv_k x1 hj, r3 t j hj]
        · rw [classN, ho, nz_some, nn_some, if_pos (h20.mpr q20), nn_some, nn_some, mvR hJ1 hk1 (Or.inr (Or.inr ⟨l, hl, Or.inl rfl⟩)), ck1, bV_none, d_113_100]
          try dsimp only
          rw [t3 z, bV_none]
        · rw [startN b l5 l6 c9 z hb, e34, d_210_151, if_neg qi, if_neg (iN_ne1 (by omega)), h206, bI_some, if_pos (h20.mpr q20), r193 (B := (fL C0 19 0).length) hd b1 b2, bV_none, r190 h40, bV_none]
          dsimp only
          rw [scM_mMv]
      · refine again (fun z => by rw [classN, ho, nz_some, nn_some, if_neg (fun z => q20 (h20.mp z))]) (fun b l5 l6 hb => ⟨iN l, fun c9 z => ?_⟩)
        rw [startN b l5 l6 c9 z hb, e34, d_210_151, if_neg qi, if_neg (iN_ne1 (by omega)), h206, bI_some, if_neg (fun z => q20 (h20.mp z))]
end OQM
end KAP
