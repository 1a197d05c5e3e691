/-! ===== an hour: what becomes of a parcel that has failed ===== -/
section KAP
variable {κ : kP}
section ORB
variable {xs : Nat → Int32} {nx : Nat}
theorem settleJ {i v e : Nat} {c : nC} {m : nM} (hJ : nJ κ i c m) (hi : i % 100000 < 90000) (hp : i / 100000 = 2 + v) (hv : v < fN c 27) (hk : e < fN c 26) (u1 : m 66 e = 4) (u2 : m 67 e = iN v) (u3 : m 78 e = 0) (hnot : ∀ w, w < fN c 27 → w ≠ v → e ∉ fL c 11 w) :
    ∃ c' m', nJ κ (i + 1) c' m' ∧ fr c m c' m' ∧ fL c' 11 = fL c 11 ∧ fP c' 8 = fP c 8 ∧ (∀ t, (t = 56 ∨ t = 78 ∨ (81 < t ∧ t < 88)) → m' t = m t) ∧ (∀ k, k ≠ e → m' 66 k = m 66 k ∧ m' 67 k = m 67 k ∧ m' 63 k = m 63 k) ∧ m' 66 e ≠ 4 ∧ m' 66 e ≠ 7 ∧
      (∀ z, R1 xs nx 120 0 [some (vR 0 (some 0)), some (vR 26 (some e)), some (vR 21 (some (fX c 27 v 1))), none, none] [] (c, z) = some (.inl none, (c', z))) ∧
      ∀ c9 z, R1 xs nx 219 0 [some (vR 1 (some 0)), some (vI (iN e)), some (vI (iN (fX c 27 v 1))), none] [] (c9, m, z) = some (.inl none, (c9, m', z)) := by
  have h40 := k40 hJ hk
  have h27 := hJ.1.2.2.2.1.1
  have h28 := hJ.1.2.2.2.2.1.1
  have kin : mIn (iN e) 40 = true := iN_in40 h40
  have ken : (iN e).toNatClampNeg = e := i32_nat (by omega)
  obtain ⟨⟨x1, x2⟩, -⟩ := hJ.2.2.2.2.2.2.2.2.2.2.2.1.1 v hv
  have hgT := (hJ.2.2.2.2.2.2.2.2.1.2 e hk).2 u1
  rw [u2, i32_nat (by omega), x2] at hgT
  have hf := notFresh hJ hk (by rw [u1]; decide) (by rw [u1]; decide)
  have h7 : m 66 e ≠ 7 := by rw [u1]; decide
  have hr : ∀ w, w < fN c 27 → i / 100000 ≠ 2 + w → e ∉ fL c 11 w := fun w hw hpw => hnot w hw (fun z => hpw (by rw [hp, z]))
  obtain ⟨⟨s, s1, s3, es⟩, f2, f15, f16, g1⟩ : nIn (m 53 e) 1 3 ∧ fI c 26 e 2 = m 53 e ∧ fI c 26 e 15 = m 65 e ∧ fI c 26 e 16 = m 63 e ∧ fI c 8 e 1 = m 56 e := by
    obtain ⟨y1, y2, y3, y4, y5, y6, y7, y8, y9, y10, y11, y12, y13, y14, y15, y16, y17, y18⟩ := hJ.2.2.2.2.2.1 e hk
    exact ⟨y5.1 ▸ y5.2, y5.1, y18.1, y17.1, y8.1⟩
  have ck := (nJ_ck hJ).1
  obtain ⟨b1, b2⟩ := nJ_69 hJ
  generalize hD : fX c 27 v 1 = D at x1 x2 hgT
  -- no locker
  have none_ : (∃ as0 : Int32, ∀ z, R1 xs nx 120 0 [some (vR 0 (some 0)), some (vR 26 (some e)), some (vR 21 (some D)), none, none] [] (c, z) = R1 xs nx 120 48 [some (vR 0 (some 0)), some (vR 26 (some e)), some (vR 21 (some D)), some (vI as0), none] [(vR 28 none)] (c, z)) →
      (∀ c9 z, R1 xs nx 219 0 [some (vR 1 (some 0)), some (vI (iN e)), some (vI (iN D)), none] [] (c9, m, z) = R1 xs nx 219 38 [some (vR 1 (some 0)), some (vI (iN e)), some (vI (iN D)), none] [(vI (-1))] (c9, m, z)) → _ := fun hc hm => by
    show ∃ c' m', nJ κ (i + 1) c' m' ∧ fr c m c' m' ∧ fL c' 11 = fL c 11 ∧ fP c' 8 = fP c 8 ∧ (∀ t, (t = 56 ∨ t = 78 ∨ (81 < t ∧ t < 88)) → m' t = m t) ∧ (∀ k, k ≠ e → m' 66 k = m 66 k ∧ m' 67 k = m 67 k ∧ m' 63 k = m 63 k) ∧ m' 66 e ≠ 4 ∧ m' 66 e ≠ 7 ∧
      (∀ z, R1 xs nx 120 0 [some (vR 0 (some 0)), some (vR 26 (some e)), some (vR 21 (some D)), none, none] [] (c, z) = some (.inl none, (c', z))) ∧
      ∀ c9 z, R1 xs nx 219 0 [some (vR 1 (some 0)), some (vI (iN e)), some (vI (iN D)), none] [] (c9, m, z) = some (.inl none, (c9, m', z))
    obtain ⟨as0, hc⟩ := hc
    by_cases q3 : m 65 e < 3
    · have hp3 := put3r hJ hi hk h7 hr x1 hf hgT
      obtain ⟨c', t1, t2, t3⟩ := noteJ (xs := xs) (nx := nx) (k := e) (a := 9) hp3 (by rw [cMv_N]; exact hk) x1 ⟨9, by omega, by omega, rfl⟩
      refine ⟨c', _, t1, fr_trans (fr_mv (w := 3) (by decide)) (fr_sc t2), ?_, ?_, fun t ht => ?_, fun k hk' => ⟨?_, ?_, ?_⟩, ?_, ?_, fun z => ?_, fun c9 z => ?_⟩
      · rw [t2.2.2.2.2.1 11 (by decide) (by decide), mvL hJ hk (by intro p hp; cases hp) (by decide) (by decide) (by decide)]
      · rw [t2.2.2.1, cMv_P (by decide)]
      · rw [scM_ne (by omega), mMv_ne (by omega)]
      · rw [scM_ne (by decide), mMv_k (by decide) hk']
      · rw [scM_ne (by decide), mMv_k (by decide) hk']
      · rw [scM_ne (by decide), mMv_k (by decide) hk']
      · rw [scM_ne (by decide), mMv_66]; decide
      · rw [scM_ne (by decide), mMv_66]; decide
      · rw [hc, d_120_48, nz_none]
        dsimp only
        rw [f15, if_pos q3, d_112_0]
        show bV (bV (R1 xs nx 57 0 [some (vR 26 (some e)), some (vI (3 : Int32)), some (vI (iN D)), some (vR 21 (some D)), some (vL none), some (vI (fI c 0 0 9)), none, none] [] (c, z)) _ _) _ _ = _
        rw [mvR hJ hk (Or.inl rfl), ck, bV_none, bV_none, t3 z, bV_none]
      · rw [hm, d_219_38, if_pos rfl, if_pos kin, ken]
        dsimp only
        rw [if_pos q3, d_219_152, if_pos kin, ken]
        dsimp only
        rw [if_pos q3, r193 (B := (fL c 19 0).length) x1 b1 b2, bV_none, r190 h40, bV_none]
        dsimp only
        rw [scM_mMv]
    · by_cases q63 : m 63 e = 0
      · obtain ⟨c', m', t1, t2, t3, t4, t5, t6, t7, t8, t9, t10, t11⟩ := backJ (xs := xs) (nx := nx) (d := D) hJ hi hk h7 hr x1
        refine ⟨c', m', t1, t2, t3 11 (by decide) (by decide) (by decide) (by decide) (by decide), t5 8 (by decide) (by decide), fun t ht => t8 t (by omega) (by omega) (by omega) (by omega) (by omega) (by omega) (by omega) (by omega) (by omega) (by omega), fun k hk' => ⟨t7 k hk' 66 (by decide) (by decide) (by decide) (by decide), t7 k hk' 67 (by decide) (by decide) (by decide) (by decide), t7 k hk' 63 (by decide) (by decide) (by decide) (by decide)⟩, by rw [t6]; decide, by rw [t6]; decide, fun z => ?_, fun c9 z => ?_⟩
        · rw [hc, d_120_48, nz_none]
          dsimp only
          rw [f15, if_neg q3, f16, if_pos q63, t10 z, bV_none]
        · rw [hm, d_219_38, if_pos rfl, if_pos kin, ken]
          dsimp only
          rw [if_neg q3, if_pos kin, if_pos q63, d_219_152, if_pos kin, ken]
          dsimp only
          rw [if_neg q3]
          exact t11 c9 z _
      · have hp8 := put8r hJ hi hk h7 hr
        refine ⟨_, _, hp8, fr_trans (fr_mv (w := 8) (by decide)) (fr_uM (t := 75) (by decide)), ?_, ?_, fun t ht => ?_, fun k hk' => ⟨?_, ?_, ?_⟩, ?_, ?_, fun z => ?_, fun c9 z => ?_⟩
        · rw [mvL hJ hk (by intro p hp; cases hp) (by decide) (by decide) (by decide)]
        · rw [cMv_P (by decide)]
        · rw [uM_ne (by omega), mMv_ne (by omega)]
        · rw [uM_ne (by decide), mMv_k (by decide) hk']
        · rw [uM_ne (by decide), mMv_k (by decide) hk']
        · rw [uM_ne (by decide), mMv_k (by decide) hk']
        · rw [uM_ne (by decide), mMv_66]; decide
        · rw [uM_ne (by decide), mMv_66]; decide
        · rw [hc, d_120_48, nz_none]
          dsimp only
          rw [f15, if_neg q3, f16, if_neg q63, mvR hJ hk (Or.inl rfl), ck, bV_none]
        · rw [hm, d_219_38, if_pos rfl, if_pos kin, ken]
          dsimp only
          rw [if_neg q3, if_pos kin, if_neg q63, r190 h40, bV_none, if_pos kin]
          dsimp only
          rw [mMv_1 (by decide)]
  by_cases A : ¬ (m 65 e < 2) ∧ m 63 e = 0 ∧ m 56 e = 0
  · obtain ⟨A1, A2, A3⟩ := A
    have hl119 := fun z => lock119 (xs := xs) (nx := nx) (D := D) hJ s1 s3 (z := z)
    have hl218 := lock218 (xs := xs) (nx := nx) (D := D) hJ hk x1 s1 s3 es
    have hc : ∀ z, R1 xs nx 120 0 [some (vR 0 (some 0)), some (vR 26 (some e)), some (vR 21 (some D)), none, none] [] (c, z) = R1 xs nx 120 48 [some (vR 0 (some 0)), some (vR 26 (some e)), some (vR 21 (some D)), some (vI 1), none] [(vR 28 (nFst (lkP c D s) (fN c 28) 0))] (c, z) := by
      intro z
      rw [d_120_0]
      dsimp only
      rw [f15, if_neg A1, f16, if_pos A2, g1, if_pos A3, d_120_30, if_neg n10]
      dsimp only
      rw [f2, es, hl119, bR_some]
    have hm : ∀ c9 z, R1 xs nx 219 0 [some (vR 1 (some 0)), some (vI (iN e)), some (vI (iN D)), none] [] (c9, m, z) = R1 xs nx 219 38 [some (vR 1 (some 0)), some (vI (iN e)), some (vI (iN D)), none] [(vI (oI (nFst (lkP c D s) (fN c 28) 0)))] (c9, m, z) := by
      intro c9 z
      rw [d_219_0, if_pos kin, ken]
      dsimp only
      rw [if_neg A1, if_pos kin, if_pos A2, if_pos kin, if_pos A3, hl218, bI_some]
    cases ho : nFst (lkP c D s) (fN c 28) 0 with
    | none =>
      rw [ho] at hc hm
      exact none_ ⟨1, hc⟩ hm
    | some l =>
      rw [ho] at hc hm
      obtain ⟨-, l2, l3⟩ := nFst_some _ _ ho
      have hl : l < fN c 28 := by omega
      obtain ⟨l4, l5⟩ := of_decide_eq_true l3
      cases hcm : cmp c l s with
      | none => exact absurd hcm l5
      | some j =>
        obtain ⟨j1, j4, jp⟩ := cmp_some hcm s3
        have jin : mIn (iN j) 4 = true := iN_in j4 (by omega)
        have jen : (iN j).toNatClampNeg = j := i32_nat (by omega)
        have hP5 : fP c 9 e 5 = none := by
          rcases nJ_5 hJ hk with ⟨z, -⟩ | ⟨-, y⟩
          · rw [u1] at z; exact absurd z (by decide)
          · exact y
        have hO : cOut e c = cLin e c := by unfold cOut; rw [hP5]
        obtain ⟨code, hcode⟩ : ∃ x : Int32, x = (1000 : Int32) + (((((37 : Int32) * iN e) + ((101 : Int32) * iN l)) + m 1 0) - ((((37 : Int32) * iN e) + ((101 : Int32) * iN l)) + m 1 0) / (9000 : Int32) * (9000 : Int32)) := ⟨_, rfl⟩
        have hcr : nIn code 1000 9999 := by
          obtain ⟨-, T, -, hT, eT⟩ := nJ_ck hJ
          have e1 : ((37 : Int32) * iN e + (101 : Int32) * iN l) + m 1 0 = iN (37 * e + 101 * l + T) := by
            rw [eT, show (37 : Int32) * iN e = iN (37 * e) from (Int32.ofNat_mul 37 e).symm, show (101 : Int32) * iN l = iN (101 * l) from (Int32.ofNat_mul 101 l).symm, show iN (37 * e) + iN (101 * l) = iN (37 * e + 101 * l) from i32_add]
            exact i32_add
          have h28 := hJ.1.2.2.2.2.1.1
          have h26 := hJ.1.2.2.1.1
          rw [hcode, e1, show (9000 : Int32) = iN 9000 from rfl, iN_mod (by omega) (by omega), show (1000 : Int32) + iN ((37 * e + 101 * l + T) % 9000) = iN (1000 + (37 * e + 101 * l + T) % 9000) from i32_add]
          exact ⟨1000 + (37 * e + 101 * l + T) % 9000, by omega, by omega, rfl⟩
        have hp5 := put5r (code := code) hJ hi hk h7 (by rw [u1]; decide) hr hf hl hcr (by omega) j4 jp (fun w hw hpw => by
          rw [u3]
          intro z
          have := (iN_inj (a := 0) (by omega) (by omega)).mp z
          omega)
        have hN5 : fN (cLk e l j code (m 1 0) c) 26 = fN c 26 := by unfold cLk; rw [fN_uI, fN_uI, fN_uI, fN_uP, cMv_N]
        obtain ⟨c', t1, t2, t3⟩ := noteJ (xs := xs) (nx := nx) (k := e) (a := 7) hp5 (by rw [hN5]; exact hk) x1 ⟨7, by omega, by omega, rfl⟩
        have fcl : fr c m (cLk e l j code (m 1 0) c) m := by
          unfold cLk
          exact fr_trans (fr_mvC (k := e) (w := 5) (a := iN l) (ck := m 1 0) (D := some (fX c 28 l 1)) (q := none)) (fr_trans (fr_uP (t := 9)) (fr_trans (fr_uI (t := 9) (by decide)) (fr_trans (fr_uI (t := 9) (by decide)) (fr_uI (t := 7) (by decide)))))
        have fml : fr (cLk e l j code (m 1 0) c) m (cLk e l j code (m 1 0) c) (mLk e l j code (m 1 0) m) := by
          unfold mLk
          exact fr_trans (fr_uM (t := 71) (j := e) (x := iN j) (by decide)) (fr_trans (fr_mvM (w := 5) (by decide)) (fr_trans (fr_uM (t := 72) (by decide)) (fr_uM (t := 70) (by decide))))
        have rk : ∀ t k, t ≠ 1 → k ≠ e → mLk e l j code (m 1 0) m t k = m t k := fun t k t1 h => by
          unfold mLk
          rw [uM_k h, uM_k h, mMv_k t1 h, uM_k h]
        have m66 : mLk e l j code (m 1 0) m 66 e = 5 := by unfold mLk; rw [uM_ne (by decide), uM_ne (by decide), mMv_66]
        refine ⟨c', _, t1, fr_trans (fr_trans fcl fml) (fr_sc t2), ?_, ?_, fun t ht => ?_, fun k hk' => ⟨?_, ?_, ?_⟩, ?_, ?_, fun z => ?_, fun c9 z => ?_⟩
        · rw [t2.2.2.2.2.1 11 (by decide) (by decide)]
          unfold cLk
          rw [fL_uI, fL_uI, fL_uI, fL_uP, mvL hJ hk (by intro p hp; cases hp) (by decide) (by decide) (by decide)]
        · rw [t2.2.2.1]
          unfold cLk
          rw [fP_uI, fP_uI, fP_uI, fP_ne (by decide), cMv_P (by decide)]
        · rw [scM_ne (by omega)]
          unfold mLk
          rw [uM_ne (by omega), uM_ne (by omega), mMv_ne (by omega), uM_ne (by omega)]
        · rw [scM_ne (by decide), rk 66 k (by decide) hk']
        · rw [scM_ne (by decide), rk 67 k (by decide) hk']
        · rw [scM_ne (by decide), rk 63 k (by decide) hk']
        · rw [scM_ne (by decide), m66]; decide
        · rw [scM_ne (by decide), m66]; decide
        · have e7 : fI (uP 9 e 5 (some l) (cMv e 5 (iN l) (some (fX c 28 l 1)) none (m 1 0) c)) 7 l = fI c 7 l := by
            rw [fI_uP, cMv_I (by decide), hO, cLin_I]
          have e2 : fI (uP 9 e 5 (some l) (cMv e 5 (iN l) (some (fX c 28 l 1)) none (m 1 0) c)) 26 e 2 = iN s := by
            rw [fI_uP, cMv_I (by decide), cOut_I (by decide), f2, es]
          have h55 := comp55 (xs := xs) (nx := nx) (c := c) (C := uP 9 e 5 (some l) (cMv e 5 (iN l) (some (fX c 28 l 1)) none (m 1 0) c)) (l := l) (s := s) (z := z) e7 s1 s3
          have h58 : R1 xs nx 58 0 [some (vR 28 (some l)), some (vR 26 (some e)), some (vI (m 1 0))] [] (c, z) = some (.inl none, (cLk e l j code (m 1 0) c, z)) := by
            rw [d_58_0]
            dsimp only
            rw [mvR hJ hk (Or.inl rfl), bV_none]
            dsimp only
            rw [cMv_I (t := 26) (by decide), cOut_I (t := 26) (by decide), f2, es, h55, hcm, bI_some]
            dsimp only
            rw [show oI (some j) = iN j from rfl, ← hcode, fI_k, if_neg (by decide), fI_k, if_pos rfl, d_54_0, if_neg (iN_pos (by omega)), if_pos (show iN j < (4 : Int32) from (iN_lt (b := 4) (by omega) (by omega)).mpr j4), if_pos jin, if_pos jin, jen, bV_none]
            dsimp only
            rw [fI_ne (by decide), fI_ne (by decide), e7]
            rfl
          rw [hc, d_120_48, nz_some, nn_some]
          dsimp only
          rw [ck, h58, bV_none, t3 z, bV_none]
        · rw [hm, show oI (some l) = iN l from rfl, d_219_38, if_neg (iN_ne1 (by omega)), comp217 hJ hk hl s1 s3 es, hcm, bI_some, if_pos kin, ken]
          dsimp only
          have b1' : uM 71 e (iN j) m 1 69 = iN (fL c 19 0).length := by rw [uM_ne (by decide)]; exact b1
          rw [show cvI (some j) = iN j from rfl, r193 (B := (fL c 19 0).length) x1 b1' b2, bV_none, r190 h40, bV_none, if_pos kin, if_pos kin]
          dsimp only
          have ec : mMv e 5 (iN l) (scM e D 7 (uM 71 e (iN j) m)) 1 0 = m 1 0 := by rw [mMv_1 (by decide), scM_1 (by decide), uM_ne (by decide)]
          rw [ec, ← hcode, scM_mMv]
          unfold mLk
          rw [uM_comm (t := 72) (t' := 70) (Or.inl (by decide)), scM_uM (by omega), scM_uM (by omega)]
  · have hc : ∃ as0 : Int32, ∀ z, R1 xs nx 120 0 [some (vR 0 (some 0)), some (vR 26 (some e)), some (vR 21 (some D)), none, none] [] (c, z) = R1 xs nx 120 48 [some (vR 0 (some 0)), some (vR 26 (some e)), some (vR 21 (some D)), some (vI as0), none] [(vR 28 none)] (c, z) := by
      refine ⟨0, fun z => ?_⟩
      have e29 : R1 xs nx 120 29 [some (vR 0 (some 0)), some (vR 26 (some e)), some (vR 21 (some D)), none, none] [] (c, z) = R1 xs nx 120 48 [some (vR 0 (some 0)), some (vR 26 (some e)), some (vR 21 (some D)), some (vI 0), none] [(vR 28 none)] (c, z) := by
        rw [d_120_29, d_120_30, if_pos rfl]
      rw [d_120_0]
      dsimp only
      rw [f15]
      by_cases y1 : m 65 e < 2
      · rw [if_pos y1, e29]
      · rw [if_neg y1, f16]
        by_cases y2 : m 63 e = 0
        · rw [if_pos y2, g1, if_neg (fun y3 => A ⟨y1, y2, y3⟩), e29]
        · rw [if_neg y2, e29]
    refine none_ hc (fun c9 z => ?_)
    rw [d_219_0, if_pos kin, ken]
    dsimp only
    by_cases y1 : m 65 e < 2
    · rw [if_pos y1, d_219_37]
    · rw [if_neg y1, if_pos kin]
      by_cases y2 : m 63 e = 0
      · rw [if_pos y2, if_pos kin, if_neg (fun y3 => A ⟨y1, y2, y3⟩), d_219_37]
      · rw [if_neg y2, d_219_37]
end ORB
end KAP
