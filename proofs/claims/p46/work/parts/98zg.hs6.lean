/-! ===== an hour: the cash of the day; hours ===== -/
section KAP
variable {κ : kP}
section ORG
variable {xs : Nat → Int32} {nx : Nat}
/-- the cash of a depot is paid -/
theorem nJ_pay {i k : Nat} {c : nC} {m : nM} (hJ : nJ κ i c m) (hp : i / 100000 < 2) (hk : k < fN c 26) {d : Nat} (hd : fP c 8 k 5 = some d) : nJ κ i (uP 8 k 5 none c) (uM 78 k 0 m) := by
  have hM0 := hJ.2.2.2.2.2.2.2.2.2.2.1 k hk
  have h27 := hJ.1.2.2.2.1.1
  have hd5 := hM0.2.2.2.2.2.2.2.1 d hd
  have h78 : m 56 k ≠ 0 → m 78 k = iN (10 + d) := fun z => by
    have := hM0.2.2.2.2.2.2.2.2 hp z
    rw [hd] at this
    exact this
  unfold nJ at hJ ⊢
  simp (disch := decide) only [uM_ne, fP_ne, fI_uP, fX_uP, fQ_uP, fL_uP, fN_uP]
  obtain ⟨j1, j2, j3, j4, j5, j6, j7, j8, j9, j10, j11, j12, j13, j14, j15⟩ := hJ
  refine ⟨j1, j2, j3, j4, j5, j6, fun j hj hj4 => ?_, j8, j9, j10, fun j hj => ?_, ⟨fun w hw => ?_, j12.2⟩, j13, j14, j15⟩
  · rw [uM_k (by omega)]
    exact j7 j hj hj4
  · by_cases e : j = k
    · subst e
      obtain ⟨y1, y2, y3, y4, y5, y6, y7, y8, y9⟩ := j11 j hj
      unfold nMon
      rw [uM_kk, fP_k, if_pos rfl]
      exact ⟨y1, y2, y3, y4, Or.inl rfl, fun z => ⟨rfl, rfl, (y6 z).2.2⟩, fun _ => rfl, (fun d' hd' => by cases hd'), fun _ _ => Or.inl rfl⟩
    · have := j11 j hj
      rw [fP_n e]
      unfold nMon at this ⊢
      rw [uM_k e]
      exact this
  · obtain ⟨y1, y2, y3, y4, y5⟩ := j12.1 w hw
    refine ⟨y1, y2, y3, fun hpw => ?_, y5⟩
    obtain ⟨r1, r2, r3, r4, r5, r6⟩ := y4 hpw
    refine ⟨r1, r2, r3, r4, fun j hj z => ?_, fun j k' hjk => ?_⟩
    · by_cases e : j = k
      · subst e
        rw [uM_kk] at z
        have := (iN_inj (a := 0) (by omega) (by omega)).mp z
        omega
      · rw [uM_k e] at z
        exact r5 j hj z
    · by_cases e : k' = k
      · subst e
        obtain ⟨q1, q2, q3, q4, q5⟩ := r6 j k' hjk
        rw [uM_kk]
        refine ⟨q1, q2, q3, q4, ?_⟩
        rcases q5 with ⟨u1, u2, u3, u4⟩ | ⟨u1, u2, u3, u4⟩
        · exact Or.inl ⟨u1, u2, rfl, u4⟩
        · refine Or.inr ⟨u1, u2, u3, ?_⟩
          by_cases z : m 63 k' = 1 ∨ m 56 k' = 0
          · rw [if_pos z]
          · rw [if_neg z] at u4
            have := h78 (fun y => z (Or.inr y))
            rw [u4, iN_inj (by omega) (by omega)] at this
            omega
      · rw [uM_k e]
        exact r6 j k' hjk
theorem payA {t : Nat} (hq : iN t - iN t / 24 * 24 = 0) : ∀ (n k i : Nat) (c : nC) (m : nM) (l2 : Option nV), k + n = fN c 26 → nJ κ i c m → i / 100000 < 2 → m 1 0 = iN t →
    ∃ (c' : nC) (m' : nM), nJ κ i c' m' ∧ fr c m c' m' ∧
      (∀ z, R1 xs nx 125 2 [some (vR 0 (some 0)), some (vI (iN k)), l2] [] (c, z) = some (.inl none, (c', z))) ∧
      ∀ c9 z, R1 xs nx 222 132 [some (vR 1 (some 0)), some (vI (iN k))] [] (c9, m, z) = some (.inl none, (c9, m', z)) := by
  intro n
  induction n with
  | zero =>
    intro k i c m l2 e hJ hp ck
    have h26 := hJ.1.2.2.1
    have : k = fN c 26 := by omega
    subst this
    have hn : ¬ iN (fN c 26) < iN (fN c 26) := by rw [iN_lt (by omega) (by omega)]; omega
    refine ⟨c, m, hJ, fr_refl, fun z => ?_, fun c9 z => ?_⟩
    · rw [d_125_2]
      dsimp only
      rw [h26.2.2, List.length_range, if_neg hn]
    · rw [d_222_132]
      simp only [h26.2.1, hn, if_false]
  | succ n ih =>
    intro k i c m l2 e hJ hp ck
    have h26 := hJ.1.2.2.1
    have hk : k < fN c 26 := by omega
    have h40 := k40 hJ hk
    have hlt : iN k < iN (fN c 26) := (iN_lt (by omega) (by omega)).mpr hk
    have kin : mIn (iN k) 40 = true := iN_in40 h40
    have ken : (iN k).toNatClampNeg = k := i32_nat (by omega)
    have hM := hJ.2.2.2.2.2.2.2.2.2.2.1 k hk
    have h27 := hJ.1.2.2.2.1.1
    obtain ⟨⟨u, u1, u2, u3⟩, -, -, -, -, -, -, ⟨g1, -⟩, -⟩ := hJ.2.2.2.2.2.1 k hk
    have hA := hJ.2.2.2.2.2.2.2.2.2.2.2.2.2.2.1 u u1
    have uin : mIn (iN u) 4 = true := iN_in u1 (by omega)
    have uen : (iN u).toNatClampNeg = u := i32_nat (by omega)
    have r132 : ∀ c9 z, R1 xs nx 222 132 [some (vR 1 (some 0)), some (vI (iN k))] [] (c9, m, z) = if m 78 k < 10 then R1 xs nx 222 132 [some (vR 1 (some 0)), some (vI (iN (k + 1)))] [] (c9, m, z) else R1 xs nx 222 132 [some (vR 1 (some 0)), some (vI (iN (k + 1)))] [] (c9, uM 78 k 0 (uM 90 u (m 90 u + m 56 k) m), z) := by
      intro c9 z
      rw [d_222_132]
      simp only [h26.2.1, hlt, ck, hq, kin, ken, u3, uin, uen, if_true, d_222_188, iN_add1]
    have h10 : ∀ x, x < 10 → iN x < (10 : Int32) := fun x hx => (iN_lt (b := 10) (by omega) (by omega)).mpr hx
    cases hD : fP c 8 k 5 with
    | none =>
      have hlt10 : m 78 k < 10 := by
        by_cases z : m 56 k = 0
        · rw [hM.2.2.2.2.2.2.1 (Or.inl z)]; decide
        · have := hM.2.2.2.2.2.2.2.2 hp z
          rw [hD] at this
          rcases this with y | ⟨w, w1, w2, w3⟩
          · rw [y]; decide
          · rw [w3]; exact h10 w (by omega)
      obtain ⟨c', m', t1, t2, t3, t4⟩ := ih (k + 1) i c m (some (vR 26 (some k))) (by omega) hJ hp ck
      refine ⟨c', m', t1, t2, fun z => ?_, fun c9 z => ?_⟩
      · rw [d_125_2]
        dsimp only
        rw [h26.2.2, List.length_range, if_pos hlt, if_neg (iN_pos (by omega)), ken, List.getElem?_range hk, nn_some, hD, nz_none, d_125_62, iN_add1]
        exact t3 z
      · rw [r132, if_pos hlt10]
        exact t4 c9 z
    | some d =>
      have hJ1 := nJ_acct (u := u) (x := m 90 u + m 56 k) (nJ_pay hJ hp hk hD)
      have hN : fN (uI 22 u 1 (m 90 u + m 56 k) (uP 8 k 5 none c)) = fN c := rfl
      have f1 : fr c m (uI 22 u 1 (m 90 u + m 56 k) (uP 8 k 5 none c)) (uM 90 u (m 90 u + m 56 k) (uM 78 k 0 m)) := fr_trans (fr_uP (t := 8)) (fr_trans (fr_uI (t := 22) (by decide)) (fr_trans (fr_uM (t := 78) (by decide)) (fr_uM (t := 90) (by decide))))
      obtain ⟨c', m', t1, t2, t3, t4⟩ := ih (k + 1) i _ _ (some (vR 26 (some k))) (by rw [hN]; omega) hJ1 hp (f1.2.2.2.1.trans ck)
      refine ⟨c', m', t1, fr_trans f1 t2, fun z => ?_, fun c9 z => ?_⟩
      · rw [d_125_2]
        dsimp only
        rw [h26.2.2, List.length_range, if_pos hlt, if_neg (iN_pos (by omega)), ken, List.getElem?_range hk, nn_some, hD, nz_some, u2, nn_some, hA, g1, d_125_62, iN_add1]
        exact t3 z
      · rw [r132]
        by_cases z0 : m 56 k = 0
        · have e78 : m 78 k = 0 := hM.2.2.2.2.2.2.1 (Or.inl z0)
          have em : uM 90 u (m 90 u + m 56 k) (uM 78 k 0 m) = m := by
            rw [uM_id e78, z0, iN_a0, uM_id rfl]
          rw [if_pos (by rw [e78]; decide)]
          rw [em] at t4
          exact t4 c9 z
        · have e78 : m 78 k = iN (10 + d) := by
            have := hM.2.2.2.2.2.2.2.2 hp z0
            rw [hD] at this
            exact this
          have hd5 := hM.2.2.2.2.2.2.2.1 d hD
          rw [if_neg (by
            rw [e78]
            intro w
            have := (iN_lt (b := 10) (by omega) (by omega)).mp w
            omega), uM_comm (t := 78) (t' := 90) (Or.inl (by decide))]
          exact t4 c9 z
theorem st_k2 {N : Nat} {m m' : nM} (h : ∀ j, j < N → m 66 j = 2 → m 1 0 < m 69 j) (ck : m' 1 0 = m 1 0) (k2 : ∀ k, m' 66 k = 2 → (m 66 k = 2 ∧ m' 67 k = m 67 k ∧ m' 69 k = m 69 k) ∨ m 1 0 < m' 69 k) : ∀ j, j < N → m' 66 j = 2 → m' 1 0 < m' 69 j := by
  intro j hj hw
  rcases k2 j hw with ⟨a1, a2, a3⟩ | a
  · rw [ck, a3]; exact h j hj a1
  · rw [ck]; exact a
/-- one hour -/
theorem hour1 {i t : Nat} {c : nC} {m : nM} (hJ : nJ κ i c m) (hi : i < 1000) (ck : m 1 0 = iN t) (ht : t < 600) :
    ∃ (c' : nC) (m' : nM) (g : Nat), nJ (κ.1 + g, κ.2) i c' m' ∧ m' 1 0 = iN (t + 1) ∧ m' 1 76 = m 1 76 ∧ m' 1 75 = m 1 75 + iN g ∧
      (∀ a1 a2 a3 z, R1 xs nx 126 34 [some (vR 0 (some 0)), some (vI a1), some (vI a2), some (vI a3)] [] (c, z) = if a3 < a1 then R1 xs nx 126 34 [some (vR 0 (some 0)), some (vI a1), some (vI (a2 + iN g)), some (vI (a3 + 1))] [] (c', z) else some (.inl (some (vI a2)), (c, z))) ∧
      ∀ c9 z, R1 xs nx 222 0 [some (vR 1 (some 0)), none] [] (c9, m, z) = some (.inl none, (c9, m', z)) := by
  have h23 := hJ.1.1
  have ckc := (nJ_ck hJ).1
  have h31 : ∀ d, d < 5 → m 31 d = hRel (fI c 21 d 5) t := fun d hd => by
    have := (hJ.2.2.1 d hd).2.2.1.2 (by omega)
    rw [this, ck]
    rfl
  have hEn := enterJ hJ (by omega) ck ht
  have e10 : uM 1 0 (iN (t + 1)) m 1 0 = iN (t + 1) := uM_kk
  -- trailers come
  obtain ⟨c1, m1, n1, a1', a2', a3', a4', a5', a6'⟩ := arrA (xs := xs) (nx := nx) (fN c 23) 0 (100000 + i) (uI 0 0 9 (iN (t + 1)) c) (uM 1 0 (iN (t + 1)) m) none none none (Nat.zero_add _) hEn (by omega) (fun j l' _ _ _ z => by omega)
  have hN1 : ∀ t, t ≠ 25 → fN c1 t = fN c t := fun t ht => (a3'.1 t ht).trans rfl
  have k1 : m1 1 0 = iN (t + 1) := a3'.2.2.2.1.trans e10
  -- lockers
  obtain ⟨c2, m2, n2, b1', b2', b3', b4', b5'⟩ := lockA (xs := xs) (nx := nx) (fN c1 26) 0 (100000 + i + n1) c1 m1 none none none (Nat.zero_add _) a2' (by have := a2'.1.2.2.1.1; omega)
  have h26 := a2'.1.2.2.1.1
  have hN2 : ∀ t, t ≠ 25 → fN c2 t = fN c t := fun t ht => (b3'.1 t ht).trans (hN1 t ht)
  have k2 : m2 1 0 = iN (t + 1) := b3'.2.2.2.1.trans k1
  -- sortings
  have h31b : ∀ d', d' < 5 → m2 31 d' = hRel (fI c2 21 d' 5) (if d' < 0 then t + 1 else t) := fun d' hd' => by
    rw [if_neg (Nat.not_lt_zero _), b3'.2.1, a3'.2.1, b3'.2.2.2.2.2.2.1, a3'.2.2.2.2.2.2.1, uM_ne (by decide), fI_ne (by decide)]
    exact h31 d' hd'
  obtain ⟨c3, m3, n3, d1', d2', d3', d4', d5', d6'⟩ := sortA (xs := xs) (nx := nx) ht 5 0 (100000 + i + n1 + n2) c2 m2 none none none rfl b2' (by omega) (by omega) k2 h31b
  have hN3 : ∀ t, t ≠ 25 → fN c3 t = fN c t := fun t ht => (d3'.1 t ht).trans (hN2 t ht)
  have k3 : m3 1 0 = iN (t + 1) := d3'.2.2.2.1.trans k2
  -- trailers leave
  obtain ⟨c4, m4, n4, e1', e2', e3', e4', e5'⟩ := leaveA (xs := xs) (nx := nx) (h := t + 1) (by omega) (fN c3 23) 0 (100000 + i + n1 + n2 + n3) c3 m3 none (Nat.zero_add _) d2' (by have := d2'.1.1.1; omega) k3
  have h23' := d2'.1.1.1
  have hN4 : ∀ t, t ≠ 25 → fN c4 t = fN c t := fun t ht => (e3'.1 t ht).trans (hN3 t ht)
  have k4 : m4 1 0 = iN (t + 1) := e3'.2.2.2.1.trans k3
  have h27 := e2'.1.2.2.2.1.1
  -- vans
  have e2'' : nJ κ (100000 + (i + n1 + n2 + n3 + n4)) c4 m4 := by
    rw [show 100000 + (i + n1 + n2 + n3 + n4) = 100000 + i + n1 + n2 + n3 + n4 by omega]
    exact e2'
  obtain ⟨c5, m5, g, n5, g1', g2', g3', g4', g5', g6'⟩ := vanA (xs := xs) (nx := nx) (t := t + 1) (by omega) (fN c4 27) κ 0 (i + n1 + n2 + n3 + n4) c4 m4 0 none (Nat.zero_add _) e2'' (by omega) k4
  have k5 : m5 1 0 = iN (t + 1) := g3'.2.2.2.1.trans k4
  have hN5 : ∀ t, t ≠ 25 → fN c5 t = fN c t := fun t ht => (g3'.1 t ht).trans (hN4 t ht)
  -- what is owed of the end
  have s1 : ∀ j, j < fN c 26 → m1 66 j = 2 → m1 1 0 < m1 69 j := a4'
  have s2 := st_k2 s1 b3'.2.2.2.1 b3'.2.2.2.2.2.2.2
  have s3 := st_k2 s2 d3'.2.2.2.1 d3'.2.2.2.2.2.2
  have s4 := st_k2 s3 e3'.2.2.2.1 e3'.2.2.2.2.2.2.2
  have s5 := st_k2 s4 g3'.2.2.2.1 g3'.2.2.2.2.2.2
  have f31 : ∀ d, d < 5 → m5 31 d = hRel (fI c5 21 d 5) (t + 1) := fun d hd => by
    rw [g3'.2.1, g3'.2.2.2.2.2.1, e3'.2.1, e3'.2.2.2.2.2.2.1]
    exact d4' d hd
  have e75 : m5 1 75 = m 1 75 + iN g := by
    rw [g4', e3'.2.2.2.2.1, d3'.2.2.2.2.1, b3'.2.2.2.2.1, a3'.2.2.2.2.1, uM1_ne (by decide)]
  have e76 : m5 1 76 = m 1 76 := by
    rw [g3'.2.2.2.2.1, e3'.2.2.2.2.2.1, d3'.2.2.2.2.2.1, b3'.2.2.2.2.2.1, a3'.2.2.2.2.2.1, uM1_ne (by decide)]
  have cst : ∀ a1 a2 a3 z, R1 xs nx 126 34 [some (vR 0 (some 0)), some (vI a1), some (vI a2), some (vI a3)] [] (c, z) = if a3 < a1 then (if iN (t + 1) - iN (t + 1) / 24 * 24 = 0 then bV (R1 xs nx 125 0 [some (vR 0 (some 0)), none, none] [] (c5, z)) (fun s7 => R1 xs nx 126 86 [some (vR 0 (some 0)), some (vI a1), some (vI (a2 + iN g)), some (vI a3)] [] s7) hE else R1 xs nx 126 86 [some (vR 0 (some 0)), some (vI a1), some (vI (a2 + iN g)), some (vI a3)] [] (c5, z)) else some (.inl (some (vI a2)), (c, z)) := by
    intro a1 a2 a3 z
    rw [d_126_34]
    by_cases q : a3 < a1
    · rw [if_pos q, if_pos q]
      dsimp only
      have v1 : R1 xs nx 106 0 [some (vR 0 (some 0)), none, none, none, none] [] (uI 0 0 9 (iN (t + 1)) c, z) = some (.inl none, (c1, z)) := by
        rw [d_106_0]; exact a5' z
      have v2 : R1 xs nx 108 0 [some (vR 0 (some 0)), none, none, none] [] (c1, z) = some (.inl none, (c2, z)) := by
        rw [d_108_0]; exact b4' z
      have v3 : R1 xs nx 114 0 [some (vR 0 (some 0)), none, none, none, none, none, none] [] (c2, z) = some (.inl none, (c3, z)) := by
        rw [d_114_0]; exact d5' z
      have v4 : R1 xs nx 116 0 [some (vR 0 (some 0)), none, none] [] (c3, z) = some (.inl none, (c4, z)) := by
        rw [d_116_0]; exact e4' z
      have v5 : R1 xs nx 124 0 [some (vR 0 (some 0)), none, none, none] [] (c4, z) = some (.inl (some (vI (iN g))), (c5, z)) := by
        rw [d_124_0]
        have := g5' z
        rw [show (0 : Int32) + iN g = iN g from by rw [show (0 : Int32) = iN 0 from rfl, show iN 0 + iN g = iN (0 + g) from i32_add, Nat.zero_add]] at this
        exact this
      rw [ckc, ck, iN_add1, v1, bV_none, v2, bV_none, v3, bV_none, v4, bV_none, v5, bI_some]
      dsimp only
      rw [(nJ_ck g2').1, k5]
    · rw [if_neg q, if_neg q]
  have rst : ∀ c9 z, R1 xs nx 222 0 [some (vR 1 (some 0)), none] [] (c9, m, z) = R1 xs nx 222 132 [some (vR 1 (some 0)), some (vI (0 : Int32))] [] (c9, m5, z) := by
    intro c9 z
    have w1 := a6' c9 z
    have w2 : R1 xs nx 222 12 [some (vR 1 (some 0)), some (vI (iN (fN (uI 0 0 9 (iN (t + 1)) c) 23)))] [] (c9, m1, z) = R1 xs nx 222 37 [some (vR 1 (some 0)), some (vI (0 : Int32))] [] (c9, m2, z) := by
      have e8 : m1 1 8 = iN (fN (uI 0 0 9 (iN (t + 1)) c) 23) := by rw [a2'.1.1.2.1, hN1 23 (by decide)]; rfl
      have w3 : R1 xs nx 209 0 [some (vR 1 (some 0)), none, none] [] (c9, m1, z) = some (.inl none, (c9, m2, z)) := by
        rw [d_209_0]; exact b5' c9 z
      have hle : fN (uI 0 0 9 (iN (t + 1)) c) 23 ≤ 12 := h23.1
      rw [d_222_12]
      simp only [e8]
      rw [if_neg (by rw [iN_lt (by omega) (by omega)]; omega), w3, bV_none]
    rw [d_222_0]
    dsimp only
    rw [ck, iN_add1]
    rw [show R1 xs nx 222 12 [some (vR 1 (some 0)), some (vI (0 : Int32))] [] (c9, uM 1 0 (iN (t + 1)) m, z) = _ from w1, w2]
    rw [show R1 xs nx 222 37 [some (vR 1 (some 0)), some (vI (0 : Int32))] [] (c9, m2, z) = _ from d6' c9 z]
    rw [show R1 xs nx 222 55 [some (vR 1 (some 0)), some (vI (0 : Int32))] [] (c9, m3, z) = _ from e5' c9 z]
    exact g6' c9 z
  have hle23 : fN c 23 ≤ 12 := h23.1
  have hle23' : fN (uI 0 0 9 (iN (t + 1)) c) 23 ≤ 12 := h23.1
  have g2'' : nJ (κ.1 + g, κ.2) (100000 + (i + n1 + n2 + n3 + n4 + n5)) c5 m5 := g2'
  by_cases hq : iN (t + 1) - iN (t + 1) / 24 * 24 = 0
  · obtain ⟨c6, m6, p1, p2, p3, p4⟩ := payA (xs := xs) (nx := nx) hq (fN c5 26) 0 (100000 + (i + n1 + n2 + n3 + n4 + n5)) c5 m5 none (Nat.zero_add _) g2'' (by omega) k5
    have s6 := st_k2 s5 p2.2.2.2.1 p2.2.2.2.2.2.2.2
    have hN6 : fN c6 26 = fN c 26 := (p2.1 26 (by decide)).trans (hN5 26 (by decide))
    refine ⟨c6, m6, g, leaveJ (i := i) (n := i + n1 + n2 + n3 + n4 + n5) p1 (by omega) (by omega) (fun k hk => s6 k (by rw [← hN6]; exact hk)) (fun d hd => ?_), p2.2.2.2.1.trans k5, p2.2.2.2.2.2.1.trans e76, p2.2.2.2.2.1.trans e75, fun a1 a2 a3 z => ?_, fun c9 z => ?_⟩
    · rw [p2.2.2.2.2.2.2.1, p2.2.1, p2.2.2.2.1, k5]
      exact f31 d hd
    · rw [cst]
      by_cases q : a3 < a1
      · have v6 : R1 xs nx 125 0 [some (vR 0 (some 0)), none, none] [] (c5, z) = some (.inl none, (c6, z)) := by
          rw [d_125_0]; exact p3 z
        rw [if_pos q, if_pos q, if_pos hq, v6, bV_none, d_126_86]
      · rw [if_neg q, if_neg q]
    · rw [rst]
      exact p4 c9 z
  · refine ⟨c5, m5, g, leaveJ (i := i) (n := i + n1 + n2 + n3 + n4 + n5) g2'' (by omega) (by omega) (fun k hk => s5 k (by rw [← hN5 26 (by decide)]; exact hk)) (fun d hd => ?_), k5, e76, e75, fun a1 a2 a3 z => ?_, fun c9 z => ?_⟩
    · rw [k5]
      exact f31 d hd
    · rw [cst]
      by_cases q : a3 < a1
      · rw [if_pos q, if_pos q, if_neg hq, d_126_86]
      · rw [if_neg q, if_neg q]
    · rw [rst, d_222_132]
      simp only [k5, hq, if_false]
      split <;> rfl
/-- hours -/
theorem hourL {i H : Nat} (hi : i < 1000) (hH : H ≤ 24) : ∀ (n : Nat) (κ : kP) (k t : Nat) (c : nC) (m : nM) (a2 : Int32), k + n = H → nJ κ i c m → m 1 0 = iN t → t + n ≤ 600 → m 1 75 = a2 →
    ∃ (c' : nC) (m' : nM) (g : Nat), nJ (κ.1 + g, κ.2) i c' m' ∧ m' 1 76 = m 1 76 ∧ m' 1 0 = iN (t + n) ∧
      (∀ z, R1 xs nx 126 34 [some (vR 0 (some 0)), some (vI (iN H)), some (vI a2), some (vI (iN k))] [] (c, z) = some (.inl (some (vI (a2 + iN g))), (c', z))) ∧
      ∀ c9 z, R1 xs nx 223 47 [some (vR 1 (some 0)), some (vI (iN H)), some (vI (iN k))] [] (c9, m, z) = some (.inl (some (vI (a2 + iN g))), (c9, m', z)) := by
  intro n
  induction n with
  | zero =>
    intro κ k t c m a2 e hJ ck ht h75
    have hn : ¬ iN k < iN H := by rw [iN_lt (by omega) (by omega)]; omega
    refine ⟨c, m, 0, hJ, rfl, ck, fun z => ?_, fun c9 z => ?_⟩
    · rw [d_126_34, if_neg hn, show a2 + iN 0 = a2 from iN_a0]
    · rw [d_223_47, if_neg hn]
      dsimp only
      rw [h75, show a2 + iN 0 = a2 from iN_a0]
  | succ n ih =>
    intro κ k t c m a2 e hJ ck ht h75
    have hlt : iN k < iN H := (iN_lt (by omega) (by omega)).mpr (by omega)
    obtain ⟨c1, m1, g, t1, t2, t3, t4, t5, t6⟩ := hour1 (xs := xs) (nx := nx) hJ hi ck (by omega)
    obtain ⟨c', m', g2, u1, u2, u0, u3, u4⟩ := ih (κ.1 + g, κ.2) (k + 1) (t + 1) c1 m1 (a2 + iN g) (by omega) t1 t2 (by omega) (by rw [t4, h75])
    refine ⟨c', m', g + g2, by rw [← Nat.add_assoc]; exact u1, u2.trans t3, by rw [u0, show t + 1 + n = t + (n + 1) by omega], fun z => ?_, fun c9 z => ?_⟩
    · rw [t5, if_pos hlt, iN_add1]
      rw [u3 z, Int32.add_assoc, show iN g + iN g2 = iN (g + g2) from i32_add]
    · rw [d_223_47, if_pos hlt, t6, bV_none, iN_add1]
      rw [u4 c9 z, Int32.add_assoc, show iN g + iN g2 = iN (g + g2) from i32_add]
theorem nIn_no {x : Int32} {a b : Nat} (hb : b < 100000) (h : x < iN a ∨ iN b < x) (hab : a < 100000) : ¬ nIn x a b := by
  rintro ⟨n, h1, h2, rfl⟩
  rcases h with h | h
  · have := (iN_lt (by omega) (by omega)).mp h; omega
  · have := (iN_lt (by omega) (by omega)).mp h; omega
/-- what is said of an hour's call -/
def P14 (κ : kP) (a1 : Int32) (_ : nC) (m : nM) (κ' : kP) (_ : nC) (m' : nM) (v : Int32) : Prop := ∃ g, κ' = (κ.1 + g, κ.2) ∧ v = iN g ∧ m' 1 0 = m 1 0 + a1
def F14 (a1 : Int32) (_ : nC) (m : nM) (E : Nat) : Prop := (E = 1 ∧ ¬ nIn a1 1 24) ∨ (E = 2 ∧ ∃ t H, m 1 0 = iN t ∧ a1 = iN H ∧ t ≤ 600 ∧ H ≤ 24 ∧ 600 < t + H)
theorem op14 : ∀ i, i < 512 → ∀ (a1 : Int32), nDoes κ (P14 κ a1) (F14 a1) i [(1, 1), (2, 2)] (fun s => R1 xs nx 126 0 [some (vR 0 (some 0)), some (vI a1), none, none] [] s) (fun s => R1 xs nx 223 0 [some (vR 1 (some 0)), some (vI a1), none] [] s) := by
  intro i hi a1 s hJ
  rcases wi79 (xs := xs) (nx := nx) a1 1 24 with ⟨h3, h4, h0⟩ | ⟨h3, h4, h5, h6⟩
  · exact nFail (E := 1) (e := 1) (v := 0) hJ (by simp only [d_126_0, h3, bI, c80_0, bV, hE]) (fun z => by simp only [d_223_0, h4, bI, if_true, d_223_32, r172_1, n10, if_false]) rfl n10 (Or.inl ⟨rfl, nIn_no (by decide) h0 (by decide)⟩)
  · obtain ⟨ck, t, -, ht, et⟩ := nJ_ck hJ
    obtain ⟨H, H1, H2, H3⟩ := nIn_of (x := a1) (a := 1) (b := 24) (by decide) h5 h6
    subst H3
    have esum : s.2.1 1 0 + iN H = iN (t + H) := by rw [et]; exact i32_add
    have h600 : (600 : Int32) < iN (t + H) ↔ 600 < t + H := iN_lt (a := 600) (by omega) (by omega)
    by_cases q : 600 < t + H
    · refine nFail (E := 2) (e := 2) (v := 0) hJ ?_ (fun z => ?_) rfl n20 (Or.inr ⟨rfl, t, H, et, rfl, by omega, H2, q⟩)
      · rw [d_126_0, h3, bI_some, c80_1, bV_none]
        rw [ck, esum, if_pos (h600.mpr q), d_126_27, c84_0]
        rfl
      · rw [d_223_0, h4, bI_some, if_neg n10]
        dsimp only
        rw [esum, if_pos (h600.mpr q), d_223_32, r172_2, bI_some, if_neg n10]
    · have hJ' : nJ κ i s.1 (uM 1 75 0 (uM 1 76 0 s.2.1)) := nJ_75 (nJ_76 (x := 0) hJ)
      obtain ⟨c', m', g, u1, u2, u0, u3, u4⟩ := hourL (xs := xs) (nx := nx) (i := i) (H := H) (by omega) H2 H κ 0 t s.1 (uM 1 75 0 (uM 1 76 0 s.2.1)) 0 (Nat.zero_add _) hJ' (by rw [uM1_ne (by decide), uM1_ne (by decide)]; exact et) (by omega) uM_kk
      have ea : (0 : Int32) + iN g = iN g := by rw [show (0 : Int32) = iN 0 from rfl, show iN 0 + iN g = iN (0 + g) from i32_add, Nat.zero_add]
      rw [ea] at u3 u4
      refine nDoneU (v := iN g) (nJ_up u1) ?_ (fun z => ?_) ?_ ⟨g, rfl, rfl, by rw [u0, et]; exact i32_add.symm⟩
      · rw [d_126_0, h3, bI_some, c80_1, bV_none]
        rw [ck, esum, if_neg (fun w => q (h600.mp w)), d_126_27, c84_1, bV_none]
        exact u3 s.2
      · rw [d_223_0, h4, bI_some, if_neg n10]
        dsimp only
        rw [esum, if_neg (fun w => q (h600.mp w)), d_223_32, r172_0, bI_some, if_pos rfl]
        exact u4 c' z
      · rw [u2, uM1_ne (by decide), uM_self]
end ORG
end KAP
