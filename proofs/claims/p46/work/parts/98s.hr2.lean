/-! ===== an hour: lockers ===== -/
section KAP
variable {κ : kP}
section OQK
variable {xs : Nat → Int32} {nx : Nat}
/-- the run of a move after a change of the parcel's own fields -/
theorem mvRs {i k : Nat} {c c' : nC} {m : nM} (hJ : nJ κ i c m) (hk : k < fN c 26) (eI : ∀ t, t ≠ 26 → fI c' t = fI c t) (eP : ∀ t, t ≠ 26 → fP c' t = fP c t) (e2 : c'.2.2.2 = c.2.2.2) {w a ck : Int32} {D : Option Nat} {q : Option (Nat × Nat)} {z : nM × Nat × (Nat → Int64)}
    (hn : q = none ∨ (∃ d, d < 5 ∧ q = some (3, d)) ∨ (∃ l, l < fN c 23 ∧ (q = some (5, l) ∨ q = some (6, l)))) : R1 xs nx 57 0 [some (vR 26 (some k)), some (vI w), some (vI a), some (vR 21 D), some (vL q), some (vI ck), none, none] [] (c', z) = some (.inl none, (cMv k w a D q ck c', z)) := by
  have e3 : fQ c' = fQ c := congrArg (·.1) e2
  have e4 : fL c' = fL c := congrArg (·.2.1) e2
  refine mv57 (by rw [e3, e4]; exact nJ_line hJ hk) (by rw [eP 9 (by decide), eI 9 (by decide)]; exact nJ_lk hJ hk) ?_
  intro p hp
  obtain ⟨g1, g2, g3⟩ := hJ.2.2.2.2.2.2.2.2.2.1
  have h26 := hJ.1.2.2.1.1
  have hl : ∀ t l, (fL c t l).length ≤ fN c 26 → (fL (cOut k c') t l).length < 500 := by
    intro t l h
    rw [cOut_L, e3, e4]
    split
    · have := List.length_erase_le (l := fL c t l) (a := k); omega
    · omega
  rcases hn with h | ⟨d, hd, h⟩ | ⟨l, hl', h | h⟩
  · rw [h] at hp; cases hp
  · rw [h] at hp; rw [← Option.some.inj hp]; exact ⟨rfl, hl 3 d (nLin_le (g1 d hd))⟩
  · rw [h] at hp; rw [← Option.some.inj hp]; exact ⟨rfl, hl 5 l (nLin_le (g2 l hl'))⟩
  · rw [h] at hp; rw [← Option.some.inj hp]; exact ⟨rfl, hl 6 l (nLin_le (g3 l hl').1)⟩
/-- the reference: a parcel turns back -/
theorem r203 {k : Nat} {c9 : nC} {m : nM} {z : Nat × (Nat → Int64)} (hk : k < 40) : R1 xs nx 203 0 [some (vR 1 (some 0)), some (vI (iN k))] [] (c9, m, z) = some (.inl none, (c9, uM 60 k (-1) (uM 65 k 0 (uM 63 k 1 m)), z)) := by
  have hin : mIn (iN k) 40 = true := iN_in40 hk
  have en : (iN k).toNatClampNeg = k := i32_nat (by omega)
  rw [d_203_0, if_pos ⟨hin, Or.inr rfl⟩, if_pos hin, if_pos hin, en]
/-- a parcel turns back and is to be sorted at a depot -/
theorem backJ {i k d : Nat} {c : nC} {m : nM} (hJ : nJ κ i c m) (hi : i % 100000 < 90000) (hk : k < fN c 26) (h7 : m 66 k ≠ 7) (hr : ∀ v, v < fN c 27 → i / 100000 ≠ 2 + v → k ∉ fL c 11 v) (hd : d < 5) :
    ∃ c' m', nJ κ (i + 1) c' m' ∧ fr c m c' m' ∧ (∀ t, t ≠ 10 → t ≠ 19 → t ≠ 3 → t ≠ 5 → t ≠ 6 → fL c' t = fL c t) ∧ (∀ t, t ≠ 7 → t ≠ 9 → t ≠ 21 → t ≠ 25 → t ≠ 26 → fI c' t = fI c t) ∧ (∀ t, t ≠ 9 → t ≠ 26 → fP c' t = fP c t) ∧
      m' 66 k = 0 ∧ (∀ j, j ≠ k → (∀ t, t ≠ 1 → t ≠ 32 → t ≠ 33 → (t < 91 ∨ 94 < t) → m' t j = m t j)) ∧ (∀ t, t ≠ 1 → t ≠ 32 → t ≠ 33 → t ≠ 60 → t ≠ 63 → t ≠ 65 → t ≠ 66 → t ≠ 67 → t ≠ 68 → (t < 91 ∨ 94 < t) → m' t = m t) ∧ (∀ j, j ≠ k → (∀ n, fI c' 9 j n = fI c 9 j n) ∧ ∀ n, fI c' 26 j n = fI c 26 j n) ∧
      (∀ z, R1 xs nx 107 0 [some (vR 0 (some 0)), some (vR 26 (some k)), some (vR 21 (some d))] [] (c, z) = some (.inl none, (c', z))) ∧
      ∀ c9 z K, bV (R1 xs nx 193 0 [some (vR 1 (some 0)), some (vI (iN k)), some (vI (iN d)), some (vI (9 : Int32))] [] (c9, m, z)) (fun s1 => bV (R1 xs nx 203 0 [some (vR 1 (some 0)), some (vI (iN k))] [] s1) (fun s2 => bV (R1 xs nx 191 0 [some (vR 1 (some 0)), some (vI (iN k)), some (vI (iN d))] [] s2) K hE) hE) hE = K (c9, m', z) := by
  have h40 := k40 hJ hk
  have hP := hJ.2.2.2.2.2.1 k hk
  have hp := parMvr (d := d) (c' := uI 26 k 15 0 (uP 26 k 11 none (uI 26 k 16 1 c))) (m' := uM 60 k (-1) (uM 65 k 0 (uM 63 k 1 m))) hJ hi hk h7 hr hd (fun t t1 => by rw [fI_ne t1, fI_uP, fI_ne t1]) (fun t t1 => rfl) (fun t t1 => fP_ne t1) rfl (fun x j h => by rw [fI_n h, fI_uP, fI_n h]) (fun x j h => rfl) (fun x j h => fP_n h) (fun t h => by rw [uM_ne (by omega), uM_ne (by omega), uM_ne (by omega)]) (fun t x h => by rw [uM_k h, uM_k h, uM_k h]) (by
    obtain ⟨y1, y2, y3, y4, y5, y6, y7, y8, y9, y10, y11, y12, y13, y14, y15, y16, y17, y18⟩ := hP
    unfold nPar
    simp (disch := decide) only [fI_k, fX_k, fP_k, fI_uP, fI_uX, fX_uP, fX_uI, fP_uX, fP_uI, fI_ne, uM_ne, uM1_ne, uM_kk]
    exact ⟨y1, y2, y3, y4, y5, y6, y7, y8, y9, y10, y11, y12, y13, y14, by trivial, y16, ⟨by trivial, Or.inr rfl⟩, ⟨by trivial, 0, by omega, by omega, rfl⟩⟩)
  have ck : uM 60 k (-1) (uM 65 k 0 (uM 63 k 1 m)) 1 0 = m 1 0 := by rw [uM_ne (by decide), uM_ne (by decide), uM_ne (by decide)]
  rw [ck] at hp
  obtain ⟨c', t1, t2, t3⟩ := noteJ (xs := xs) (nx := nx) (k := k) (a := 9) hp (by rw [cMv_N]; exact hk) hd ⟨9, by omega, by omega, rfl⟩
  obtain ⟨b1, b2⟩ := nJ_69 hJ
  have hq := (nJ_q hJ hk).1
  refine ⟨c', _, t1, fr_trans (fr_trans (fr_trans (fr_uI (t := 26) (k := k) (j := 16) (x := 1) (by decide)) (fr_trans (fr_uP (t := 26) (k := k) (j := 11) (x := none)) (fr_trans (fr_uI (t := 26) (k := k) (j := 15) (x := 0) (by decide)) (fr_trans (fr_uM (t := 63) (j := k) (x := 1) (by decide)) (fr_trans (fr_uM (t := 65) (j := k) (x := 0) (by decide)) (fr_uM (t := 60) (j := k) (x := -1) (by decide))))))) (fr_mv (w := 0) (by decide))) (fr_sc t2), fun t x1 x2 x3 x4 x5 => ?_, fun t x1 x2 x3 x4 x5 => ?_, fun t x1 x2 => ?_, ?_, fun j hj t x1 x2 x3 x4 => ?_, fun t x1 x2 x3 x4 x5 x6 x7 x8 x9 x0 => ?_, fun j hj => ⟨fun n => ?_, fun n => ?_⟩, fun z => ?_, fun c9 z K => ?_⟩
  · rw [t2.2.2.2.2.1 t x1 x2]
    funext y
    rw [cMv_L, if_neg (fun z => x3 (congrArg Prod.fst (Option.some.inj z)).symm), cOut_L, if_neg]
    · rfl
    · intro z
      rcases hq _ z with w | w | w
      · exact x3 w
      · exact x4 w
      · exact x5 w
  · rw [t2.1 t x3 x4, cMv_I x2, cOut_I x1, fI_ne x5, fI_uP, fI_ne x5]
  · rw [t2.2.2.1, cMv_P x1, fP_uI, fP_ne x2]
    rfl
  · rw [scM_ne (by decide), mMv_66]
  · rw [scM_ne ⟨x1, x2, x3, x4⟩, mMv_k x1 hj, uM_k hj, uM_k hj, uM_k hj]
  · rw [scM_ne ⟨x1, x2, x3, x0⟩, mMv_ne ⟨x1, by omega⟩, uM_ne x4, uM_ne x6, uM_ne x5]
  · rw [t2.1 9 (by decide) (by decide), cMv_9n hj, fI_ne (by decide), fI_uP, fI_ne (by decide)]
  · rw [t2.1 26 (by decide) (by decide), cMv_I (by decide), cOut_I (by decide), fI_n hj, fI_uP, fI_n hj]
  · have hv := mvRs (xs := xs) (nx := nx) (c' := uI 26 k 15 0 (uP 26 k 11 none (uI 26 k 16 1 c))) hJ hk (fun t t1 => by rw [fI_ne t1, fI_uP, fI_ne t1]) (fun t t1 => fP_ne t1) rfl (w := 0) (a := iN d) (ck := m 1 0) (D := some d) (q := some (3, d)) (z := z) (Or.inr (Or.inl ⟨d, hd, rfl⟩))
    rw [d_107_0, d_71_0, bV_none]
    show bV (R1 xs nx 57 0 [some (vR 26 (some k)), some (vI (0 : Int32)), some (vI (iN d)), some (vR 21 (some d)), some (vL (some (3, d))), some (vI (fI c 0 0 9)), none, none] [] (uI 26 k 15 0 (uP 26 k 11 none (uI 26 k 16 1 c)), z)) _ _ = _
    rw [(nJ_ck hJ).1, hv, bV_none, t3 z, bV_none]
  · rw [r193 (B := (fL c 19 0).length) hd b1 b2, bV_none, r203 h40, bV_none, r191 h40, bV_none]
    dsimp only
    rw [← scM_uM (by omega), ← scM_uM (by omega), ← scM_uM (by omega), scM_mMv]
theorem sty5 {i : Nat} {c : nC} {m : nM} (hJ : nJ κ i c m) {k : Nat} (hk : k < fN c 26) (h : m 66 k = 5) : ∃ l, l < fN c 28 ∧ m 67 k = iN l ∧ fP c 9 k 3 = some (fX c 28 l 1) ∧ m 70 k = fI c 9 k 2 := by
  obtain ⟨-, -, -, -, y⟩ := hJ.2.2.2.2.2.2.2.1 k hk
  rw [h] at y
  rcases y with ⟨z, -⟩ | ⟨z, -⟩ | ⟨z, -⟩ | ⟨z, -⟩ | ⟨z, -⟩ | ⟨z, l, z1, z2, z3, -, -, z4, -⟩ | ⟨z, -⟩ | ⟨z, -⟩ | ⟨z, -⟩
  · exact absurd z (by decide)
  · exact absurd z (by decide)
  · exact absurd z (by decide)
  · exact absurd z (by decide)
  · exact absurd z (by decide)
  · exact ⟨l, z1, z2, z3, z4⟩
  all_goals exact absurd z (by decide)
/-- the parcels that lie in lockers too long -/
theorem lockA : ∀ (n k i : Nat) (c : nC) (m : nM) (l2 l3 l4 : Option nV), k + n = fN c 26 → nJ κ i c m → i % 100000 + n < 90000 →
    ∃ (c' : nC) (m' : nM) (n' : Nat), n' ≤ n ∧ nJ κ (i + n') c' m' ∧ fr c m c' m' ∧
      (∀ z, R1 xs nx 108 2 [some (vR 0 (some 0)), some (vI (iN k)), l2, l3] [] (c, z) = some (.inl none, (c', z))) ∧
      ∀ c9 z, R1 xs nx 209 2 [some (vR 1 (some 0)), some (vI (iN k)), l4] [] (c9, m, z) = some (.inl none, (c9, m', z)) := by
  intro n
  induction n with
  | zero =>
    intro k i c m l2 l3 l4 e hJ hi
    have h26 := hJ.1.2.2.1
    have : k = fN c 26 := by omega
    subst this
    have hn : ¬ iN (fN c 26) < iN (fN c 26) := by rw [iN_lt (by omega) (by omega)]; omega
    refine ⟨c, m, 0, Nat.le_refl _, hJ, fr_refl, fun z => ?_, fun c9 z => ?_⟩
    · rw [d_108_2]
      dsimp only
      rw [h26.2.2, List.length_range, if_neg hn]
    · rw [d_209_2]
      simp only [h26.2.1, hn, if_false]
  | succ n ih =>
    intro k i c m l2 l3 l4 e hJ hi
    have h26 := hJ.1.2.2.1
    have hk : k < fN c 26 := by omega
    have h40 := k40 hJ hk
    have hlt : iN k < iN (fN c 26) := (iN_lt (by omega) (by omega)).mpr hk
    have hin : mIn (iN k) 40 = true := iN_in40 h40
    have en : (iN k).toNatClampNeg = k := i32_nat (by omega)
    obtain ⟨e0, -⟩ := kind8 hJ hk
    have ck := (nJ_ck hJ).1
    have skip : ∀ q3 l5 : Option nV, (∀ z, R1 xs nx 108 2 [some (vR 0 (some 0)), some (vI (iN k)), l2, l3] [] (c, z) = R1 xs nx 108 71 [some (vR 0 (some 0)), some (vI (iN k)), some (vR 26 (some k)), some (vR 21 (fP c 9 k 3))] [] (c, z)) →
        (∀ c9 z, R1 xs nx 209 2 [some (vR 1 (some 0)), some (vI (iN k)), l4] [] (c9, m, z) = R1 xs nx 209 67 [some (vR 1 (some 0)), some (vI (iN k)), l5] [] (c9, m, z)) →
        ∃ (c' : nC) (m' : nM) (n' : Nat), n' ≤ n + 1 ∧ nJ κ (i + n') c' m' ∧ fr c m c' m' ∧
      (∀ z, R1 xs nx 108 2 [some (vR 0 (some 0)), some (vI (iN k)), l2, l3] [] (c, z) = some (.inl none, (c', z))) ∧
      ∀ c9 z, R1 xs nx 209 2 [some (vR 1 (some 0)), some (vI (iN k)), l4] [] (c9, m, z) = some (.inl none, (c9, m', z)) := by
      intro q3 l5 hc hm
      obtain ⟨c', m', n', t1, t2, t3, t4, t5⟩ := ih (k + 1) i c m (some (vR 26 (some k))) (some (vR 21 (fP c 9 k 3))) l5 (by omega) hJ (by omega)
      refine ⟨c', m', n', by omega, t2, t3, fun z => ?_, fun c9 z => ?_⟩
      · rw [hc, d_108_71, iN_add1]; exact t4 z
      · rw [hm, d_209_67, iN_add1]; exact t5 c9 z
    by_cases h5 : m 66 k = 5
    · obtain ⟨l, l1, l2', l3', l4'⟩ := sty5 hJ hk h5
      obtain ⟨⟨x1, x2⟩, -⟩ := hJ.2.2.2.2.2.2.2.2.2.2.2.2.1 l l1
      have h28 := hJ.1.2.2.2.2.1.1
      have lin : mIn (iN l) 5 = true := iN_in (by omega) (by omega)
      have len : (iN l).toNatClampNeg = l := i32_nat (by omega)
      by_cases hq : m 1 0 - m 70 k < 48
      · refine skip none l4 (fun z => ?_) (fun c9 z => ?_)
        · rw [d_108_2]
          dsimp only
          rw [h26.2.2, List.length_range, if_pos hlt, if_neg (iN_pos (by omega)), en, List.getElem?_range hk, nn_some, e0, if_pos h5, l3', nz_some, ck, ← l4', if_pos hq]
        · rw [d_209_2]
          simp only [h26.2.1, hlt, hin, en, h5, hq, if_true]
      · obtain ⟨c1, m1, t1, t2, -, -, -, -, -, -, -, t8, t9⟩ := backJ (xs := xs) (nx := nx) hJ (by omega) hk (by rw [h5]; decide) (nJ_nl hJ (by rw [h5]; decide) (by rw [h5]; decide)) x1
        have hN26 : fN c1 26 = fN c 26 := t2.1 26 (by decide)
        obtain ⟨c', m', n', u1, u2, u3, u4, u5⟩ := ih (k + 1) (i + 1) c1 m1 (some (vR 26 (some k))) (some (vR 21 (fP c 9 k 3))) (some (vI (iN (fX c 28 l 1)))) (by rw [hN26]; omega) t1 (by omega)
        refine ⟨c', m', n' + 1, by omega, by rw [show i + (n' + 1) = i + 1 + n' by omega]; exact u2, fr_trans t2 u3, fun z => ?_, fun c9 z => ?_⟩
        · rw [d_108_2]
          dsimp only
          rw [h26.2.2, List.length_range, if_pos hlt, if_neg (iN_pos (by omega)), en, List.getElem?_range hk, nn_some, e0, if_pos h5]
          rw [l3', nz_some, ck, ← l4', if_neg hq, t8 z, bV_none, d_108_71, iN_add1, ← l3']
          exact u4 z
        · rw [d_209_2]
          simp only [h26.2.1, hlt, hin, en, h5, hq, if_true, if_false, l2', lin, len, x2]
          rw [t9 c9 z, d_209_67, iN_add1]
          exact u5 c9 z
    · refine skip none l4 (fun z => ?_) (fun c9 z => ?_)
      · rw [d_108_2]
        dsimp only
        rw [h26.2.2, List.length_range, if_pos hlt, if_neg (iN_pos (by omega)), en, List.getElem?_range hk, nn_some, e0, if_neg h5]
      · rw [d_209_2]
        simp only [h26.2.1, hlt, hin, en, h5, if_true, if_false]
end OQK
end KAP
