/-! ===== an hour: a van begins ===== -/
section KAP
variable {κ : kP}
section ORE
variable {xs : Nat → Int32} {nx : Nat}
def mMx (T F : Nat → Nat) (p : Nat × Nat) (e : Nat) : Nat := max (p.2 + 2 * (if p.1 < T e then T e - p.1 else p.1 - T e)) (60 * F e)
def mStp (T F : Nat → Nat) (p : Nat × Nat) (e : Nat) : Nat × Nat := (T e, mMx T F p e + 5)
def mTm (T F : Nat → Nat) (S : Nat) (L : List Nat) : Nat × Nat := L.foldl (mStp T F) (0, 60 * S)
theorem mTm_app {T F : Nat → Nat} {S : Nat} {L : List Nat} {e : Nat} : mTm T F S (L ++ [e]) = mStp T F (mTm T F S L) e := by
  unfold mTm
  rw [List.foldl_append]
  rfl
def nTF (T F : Nat → Nat) (c : nC) (m : nM) : Prop := ∀ k, k < fN c 26 → m 46 (gAd c m k) = iN (T k) ∧ T k ≤ 60 ∧ m 57 k = iN (F k) ∧ F k ≤ 23
theorem mTm_le {T F : Nat → Nat} {S P : Nat} (hS : S ≤ 23) (hT : ∀ k, k < P → T k ≤ 60 ∧ F k ≤ 23) : ∀ (L : List Nat), (∀ k, k ∈ L → k < P) → (mTm T F S L).1 ≤ 60 ∧ (mTm T F S L).2 ≤ 1380 + 130 * L.length := by
  have key : ∀ (L : List Nat) (p : Nat × Nat) (b : Nat), (∀ k, k ∈ L → k < P) → p.1 ≤ 60 → p.2 ≤ 1380 + 130 * b → (L.foldl (mStp T F) p).1 ≤ 60 ∧ (L.foldl (mStp T F) p).2 ≤ 1380 + 130 * (b + L.length) := by
    intro L
    induction L with
    | nil => intro p b _ h1 h2; exact ⟨h1, by simpa using h2⟩
    | cons e L ih =>
      intro p b hL h1 h2
      obtain ⟨t1, t2⟩ := hT e (hL e (List.mem_cons_self ..))
      have := ih (mStp T F p e) (b + 1) (fun k hk => hL k (List.mem_cons_of_mem _ hk)) t1 (by
        show mMx T F p e + 5 ≤ _
        unfold mMx
        split <;> omega)
      refine ⟨this.1, ?_⟩
      have h3 := this.2
      rw [List.length_cons]
      show ((L.foldl (mStp T F) (mStp T F p e))).2 ≤ _
      omega
  intro L hL
  have := key L (0, 60 * S) 0 hL (by simp) (by simp; omega)
  rw [Nat.zero_add] at this
  exact this
/-- the parcels of a round that begins -/
def nEn (T F : Nat → Nat) (S v : Nat) (R : List Nat) (c : nC) (m : nM) : Prop := ∀ j k, R[j]? = some k → k < fN c 26 ∧ m 66 k = 4 ∧ m 67 k = iN v ∧ m 78 k = 0 ∧ m 85 (30 * v + j) = iN k ∧ m 87 (30 * v + j) = 0 ∧ m 86 (30 * v + j) = iN (mMx T F (mTm T F S (R.take j)) k / 60)
theorem if_max {a b : Nat} (ha : a < 2 ^ 31) (hb : b < 2 ^ 31) : (if iN a < iN b then iN b else iN a) = iN (max a b) := by
  by_cases q : a < b
  · rw [if_pos ((iN_lt ha hb).mpr q), Nat.max_eq_right (by omega)]
  · rw [if_neg (fun z => q ((iN_lt ha hb).mp z)), Nat.max_eq_left (by omega)]
theorem begL {v D S : Nat} {T F : Nat → Nat} (hD : D < 5) (hS : S ≤ 23) : ∀ (n i : Nat) (c : nC) (m : nM) (Lf : Nat) (R : List Nat) (l4 l7 : Option nV), Lf ≤ n → nJ κ i c m → i / 100000 = 2 + v → i % 100000 + n < 90000 → v < fN c 27 → fX c 27 v 1 = D → m 79 v = iN D → fL c 11 v = R → R.length + Lf ≤ 30 → R.Nodup → nTF T F c m →
    nEn T F S v R c m → (∀ k, k < fN c 26 → m 66 k = 4 → m 67 k = iN v → k ∈ R) → (∀ k, k < fN c 26 → m 78 k ≠ iN (1 + v)) → gCs c m →
    ∃ (c' : nC) (m' : nM) (R' : List Nat) (n' : Nat), n' ≤ n ∧ nJ κ (i + n') c' m' ∧ fr c m c' m' ∧ R'.length ≤ 30 ∧ R'.Nodup ∧ fL c' 11 v = R' ∧ nTF T F c' m' ∧ nEn T F S v R' c' m' ∧ (∀ k, k < fN c' 26 → m' 66 k = 4 → m' 67 k = iN v → k ∈ R') ∧ (∀ k, k < fN c' 26 → m' 78 k ≠ iN (1 + v)) ∧ gCs c' m' ∧ fI c' 27 = fI c 27 ∧
      (∃ (a2 : Int32) (l4' : Option nV), ∀ z, R1 xs nx 123 20 [some (vR 0 (some 0)), some (vR 27 (some v)), some (vI (iN Lf)), some (vI (iN R.length)), l4] [] (c, z) = R1 xs nx 123 96 [some (vR 0 (some 0)), some (vR 27 (some v)), some (vI a2), some (vI (iN R'.length)), l4'] [] (c', z)) ∧
      ∀ c9 z, bI (R1 xs nx 213 0 [some (vR 1 (some 0)), some (vI (iN v)), some (vI (iN Lf)), none, none, none, none] [] (c9, m, z)) (fun x2 s1 => R1 xs nx 214 31 [some (vR 1 (some 0)), some (vI (iN v)), some (vI (iN Lf)), some (vI (iN (mTm T F S R).2)), some (vI (iN (mTm T F S R).1)), some (vI (iN R.length)), some (vI x2), l7] [] s1) hE = some (.inl none, (c9, uM 82 v (m' 1 0) (uM 84 v 0 (uM 83 v (iN R'.length) m')), z)) := by
  intro n
  induction n with
  | zero =>
    intro i c m Lf R l4 l7 hLf hJ hp hi hv hX h79 hL hRL nd hTF hEn h4 h78 hc
    have h27 := hJ.1.2.2.2.1.1
    have vin : mIn (iN v) 6 = true := iN_in (by omega) (by omega)
    have ven : (iN v).toNatClampNeg = v := i32_nat (by omega)
    have hL0 : Lf = 0 := by omega
    subst hL0
    obtain ⟨n1, n2⟩ := next122 (xs := xs) (nx := nx) (left := iN 0) hJ hv hD h79
    have hnone : nSel (cV m D (iN 0)) (aV m) (fN c 26) 0 none = none := by
      rcases (nSel_spec (can := cV m D (iN 0)) (ahead := aV m) (fN c 26) 0 none).1 with h | ⟨k, -, -, k2, k3⟩
      · exact h
      · exfalso
        obtain ⟨-, -, k4⟩ := of_decide_eq_true k3
        obtain ⟨y1, y2, y3, y4, ⟨y5, s, s1, s2, s3⟩, -⟩ := hJ.2.2.2.2.2.1 k (by omega)
        rw [s3] at k4
        exact k4 ((iN_lt (by omega) (by omega)).mpr (by omega))
    rw [hnone] at n1 n2
    refine ⟨c, m, R, 0, Nat.le_refl _, hJ, fr_refl, by omega, nd, hL, hTF, hEn, h4, h78, hc, rfl, ⟨iN 0, some (vR 26 none), fun z => ?_⟩, fun c9 z => ?_⟩
    · rw [d_123_20, if_pos (show iN R.length < (40 : Int32) from (iN_lt (b := 40) (by omega) (by omega)).mpr (by omega))]
      dsimp only
      rw [hX, n1 z, bR_some, nz_none]
    · rw [n2 c9 z, bI_some, show oI none = (-1 : Int32) from rfl, d_214_31, if_pos rfl, if_pos vin, if_pos vin, if_pos vin, ven]
  | succ n ih =>
    intro i c m Lf R l4 l7 hLf hJ hp hi hv hX h79 hL hRL nd hTF hEn h4 h78 hc
    have h27 := hJ.1.2.2.2.1.1
    have h26 := hJ.1.2.2.1.1
    have vin : mIn (iN v) 6 = true := iN_in (by omega) (by omega)
    have ven : (iN v).toNatClampNeg = v := i32_nat (by omega)
    obtain ⟨n1, n2⟩ := next122 (xs := xs) (nx := nx) (left := iN Lf) hJ hv hD h79
    have h40R : iN R.length < (40 : Int32) := (iN_lt (b := 40) (by omega) (by omega)).mpr (by omega)
    cases hs : nSel (cV m D (iN Lf)) (aV m) (fN c 26) 0 none with
    | none =>
      rw [hs] at n1 n2
      refine ⟨c, m, R, 0, Nat.zero_le _, hJ, fr_refl, by omega, nd, hL, hTF, hEn, h4, h78, hc, rfl, ⟨iN Lf, some (vR 26 none), fun z => ?_⟩, fun c9 z => ?_⟩
      · rw [d_123_20, if_pos h40R]
        dsimp only
        rw [hX, n1 z, bR_some, nz_none]
      · rw [n2 c9 z, bI_some, show oI none = (-1 : Int32) from rfl, d_214_31, if_pos rfl, if_pos vin, if_pos vin, if_pos vin, ven]
    | some e =>
      rw [hs] at n1 n2
      obtain ⟨hk, k3, k4, k5⟩ : e < fN c 26 ∧ m 66 e = 3 ∧ m 67 e = iN D ∧ ¬ iN Lf < m 53 e := by
        rcases (nSel_spec (can := cV m D (iN Lf)) (ahead := aV m) (fN c 26) 0 none).1 with h | ⟨k, k1, -, k2, k3⟩
        · rw [hs] at h; cases h
        · have : e = k := Option.some.inj (hs.symm.trans k1)
          subst this
          obtain ⟨a1, a2, a3⟩ := of_decide_eq_true k3
          exact ⟨by omega, a1, a2, a3⟩
      have he40 : e < 40 := by omega
      have kin : mIn (iN e) 40 = true := iN_in40 he40
      have ken : (iN e).toNatClampNeg = e := i32_nat (by omega)
      obtain ⟨f2, ⟨s, s1, s3, es⟩⟩ : fI c 26 e 2 = m 53 e ∧ nIn (m 53 e) 1 3 := by
        obtain ⟨y1, y2, y3, y4, y5, -⟩ := hJ.2.2.2.2.2.1 e hk
        exact ⟨y5.1, y5.1 ▸ y5.2⟩
      have hsL : s ≤ Lf := by
        rw [es, iN_lt (by omega) (by omega)] at k5
        omega
      have eL : iN Lf - m 53 e = iN (Lf - s) := by rw [es]; exact i32_sub (by omega) (by omega)
      obtain ⟨T1, T2, T3, T4⟩ := hTF e hk
      obtain ⟨g1, -, g3⟩ := goal63 (xs := xs) (nx := nx) hJ hk
      have hA20 : gAd c m e < 20 := by have := hJ.1.2.1.1; omega
      have ain : mIn (iN (gAd c m e)) 20 = true := iN_in hA20 (by omega)
      have aen : (iN (gAd c m e)).toNatClampNeg = gAd c m e := i32_nat (by omega)
      have hRlt : ∀ k, k ∈ R → k < fN c 26 := fun k hk' => by
        obtain ⟨j, hj⟩ := List.getElem?_of_mem hk'
        exact (hEn j k hj).1
      obtain ⟨M1, M2⟩ := mTm_le (T := T) (F := F) (S := S) (P := fN c 26) hS (fun k hk' => ⟨(hTF k hk').2.1, (hTF k hk').2.2.2⟩) R hRlt
      have idin : mIn (iN (30 * v + R.length)) 180 = true := iN_in (by omega) (by omega)
      have iden : (iN (30 * v + R.length)).toNatClampNeg = 30 * v + R.length := i32_nat (by omega)
      have ide : (30 : Int32) * iN v + iN R.length = iN (30 * v + R.length) := by rw [show (30 : Int32) * iN v = iN (30 * v) from iN_mul (a := 30)]; exact i32_add
      have heR : e ∉ R := fun hmem => by
        obtain ⟨j, hj⟩ := List.getElem?_of_mem hmem
        have := (hEn j e hj).2.1
        rw [k3] at this
        exact absurd this (by decide)
      -- the states
      have hp4 := put4r hJ (by omega) hp hv hk k3 k4 h79
      have ip : (i + 1) / 100000 = 2 + v := by omega
      have hLm : fL (cMv e 4 (iN v) none none (m 1 0) c) 11 = fL c 11 := mvL hJ hk (by intro p hp; cases hp) (by decide) (by decide) (by decide)
      have hnl := nJ_nl hJ (by rw [k3]; decide) (by rw [k3]; decide)
      have hdis : ∀ k, k ∈ R → ∀ w, w < fN c 27 → w ≠ v → k ∉ fL c 11 w := fun k hk' w hw hne hmem => hne (hJ.2.2.2.2.2.2.2.2.2.2.2.1.2.1 v w k hv hw (by rw [hL]; exact hk') hmem).symm
      have hJ2 : nJ κ (i + 1) (uL 11 v (R ++ [e]) (cMv e 4 (iN v) none none (m 1 0) c)) (uM 87 (30 * v + R.length) 0 (uM 86 (30 * v + R.length) (iN (mMx T F (mTm T F S R) e / 60)) (uM 85 (30 * v + R.length) (iN e) (mMv e 4 (iN v) m)))) := nJ_van hp4 ip (by rw [cMv_N]; exact hv) (fun _ _ => rfl) (fun _ _ _ => rfl) rfl rfl rfl rfl (fun t ht => fL_ne ht) (fun v' hv' => by rw [fL_at, if_neg hv']) (fun k hk' v' hv' hne => by
          rw [fL_at, if_pos rfl] at hk'
          rw [cMv_N] at hv'
          rw [hLm]
          rcases List.mem_append.mp hk' with y | y
          · exact hdis k y v' hv' hne
          · rw [List.mem_singleton] at y
            rw [y]
            exact hnl v' hv' (fun z => hne (by omega)))
        (fun t ht => by rw [uM_ne (by omega), uM_ne (by omega), uM_ne (by omega)]) (fun t w hw hne => by rw [uM_ne (by omega), uM_ne (by omega), uM_ne (by omega)]) (fun t y hy hy2 => by rw [uM_k (by omega), uM_k (by omega), uM_k (by omega)]) (by
          rw [uM_ne (by decide), uM_ne (by decide), uM_ne (by decide), mMv_ne (by decide)]
          exact (hJ.2.2.2.2.2.2.2.2.2.2.2.1.2.2 v (by omega)).1)
      have hN2 : fN (uL 11 v (R ++ [e]) (cMv e 4 (iN v) none none (m 1 0) c)) = fN c := cMv_N
      obtain ⟨c3, t1, t2, t3⟩ := noteJ (xs := xs) (nx := nx) (k := e) (a := 4) hJ2 (by rw [hN2]; exact hk) hD ⟨4, by omega, by omega, rfl⟩
      obtain ⟨b1, b2⟩ := nJ_69 hJ
      have f3 : fr c m c3 (scM e D 4 (uM 87 (30 * v + R.length) 0 (uM 86 (30 * v + R.length) (iN (mMx T F (mTm T F S R) e / 60)) (uM 85 (30 * v + R.length) (iN e) (mMv e 4 (iN v) m))))) := fr_trans (fr_trans (fr_trans (fr_mv (k := e) (w := 4) (a := iN v) (ck := m 1 0) (D := none) (q := none) (by decide)) fr_uL) (fr_trans (fr_uM (t := 85) (j := 30 * v + R.length) (x := iN e) (by decide)) (fr_trans (fr_uM (t := 86) (j := 30 * v + R.length) (x := iN (mMx T F (mTm T F S R) e / 60)) (by decide)) (fr_uM (t := 87) (j := 30 * v + R.length) (x := 0) (by decide))))) (fr_sc t2)
      have hN26 : fN c3 26 = fN c 26 := f3.1 26 (by decide)
      have hN27 : fN c3 27 = fN c 27 := f3.1 27 (by decide)
      have MM : ∀ t, t ≠ 1 → t ≠ 32 → t ≠ 33 → t < 91 → t ≠ 85 → t ≠ 86 → t ≠ 87 → scM e D 4 (uM 87 (30 * v + R.length) 0 (uM 86 (30 * v + R.length) (iN (mMx T F (mTm T F S R) e / 60)) (uM 85 (30 * v + R.length) (iN e) (mMv e 4 (iN v) m)))) t = mMv e 4 (iN v) m t := fun t a1 a2 a3 a4 a5 a6 a7 => by
        rw [scM_ne ⟨a1, a2, a3, Or.inl a4⟩, uM_ne a7, uM_ne a6, uM_ne a5]
      have MN : ∀ t, t ≠ 1 → t ≠ 32 → t ≠ 33 → t < 91 → t ≠ 85 → t ≠ 86 → t ≠ 87 → t ≠ 66 → t ≠ 67 → t ≠ 68 → scM e D 4 (uM 87 (30 * v + R.length) 0 (uM 86 (30 * v + R.length) (iN (mMx T F (mTm T F S R) e / 60)) (uM 85 (30 * v + R.length) (iN e) (mMv e 4 (iN v) m)))) t = m t := fun t a1 a2 a3 a4 a5 a6 a7 a8 a9 a0 => by
        rw [MM t a1 a2 a3 a4 a5 a6 a7, mMv_ne ⟨a1, by omega⟩]
      have hX3 : fX c3 26 = fX c 26 := f3.2.2.1 26 (by decide)
      have hgad : ∀ k, gAd c3 (scM e D 4 (uM 87 (30 * v + R.length) 0 (uM 86 (30 * v + R.length) (iN (mMx T F (mTm T F S R) e / 60)) (uM 85 (30 * v + R.length) (iN e) (mMv e 4 (iN v) m))))) k = gAd c m k := fun k => by
        unfold gAd
        rw [hX3, MN 63 (by decide) (by decide) (by decide) (by decide) (by decide) (by decide) (by decide) (by decide) (by decide) (by decide)]
      have hlenR : (R ++ [e]).length = R.length + 1 := by rw [List.length_append, List.length_singleton]
      have hL3 : fL c3 11 v = R ++ [e] := by rw [t2.2.2.2.2.1 11 (by decide) (by decide), fL_at, if_pos rfl]
      have hMst : mTm T F S (R ++ [e]) = (T e, mMx T F (mTm T F S R) e + 5) := mTm_app
      have hmx : mMx T F (mTm T F S R) e ≤ 6000 := by
        unfold mMx
        split <;> omega
      obtain ⟨c', m', R', n', v1, v2, v3, v4, v5, v6, v7, v8, v9, v10, v11, v12, ⟨a2', l4', v13⟩, v14⟩ := ih (i + 1) c3 _ (Lf - s) (R ++ [e]) (some (vR 26 (some e))) (some (vI (iN (T e)))) (by omega) t1 ip (by omega) (by rw [hN27]; exact hv) (by rw [f3.2.2.1 27 (by decide)]; exact hX) (by rw [MN 79 (by decide) (by decide) (by decide) (by decide) (by decide) (by decide) (by decide) (by decide) (by decide) (by decide)]; exact h79) hL3 (by rw [hlenR]; omega)
        (by
          rw [List.nodup_append]
          exact ⟨nd, List.pairwise_singleton _ _, fun a ha b hb z => by rw [List.mem_singleton] at hb; subst hb; subst z; exact heR ha⟩)
        (fun k hk' => by
          rw [hN26] at hk'
          rw [hgad, MN 46 (by decide) (by decide) (by decide) (by decide) (by decide) (by decide) (by decide) (by decide) (by decide) (by decide), MN 57 (by decide) (by decide) (by decide) (by decide) (by decide) (by decide) (by decide) (by decide) (by decide) (by decide)]
          exact hTF k hk')
        (fun j k hjk => by
          rw [hN26, MM 66 (by decide) (by decide) (by decide) (by decide) (by decide) (by decide) (by decide), MM 67 (by decide) (by decide) (by decide) (by decide) (by decide) (by decide) (by decide), MN 78 (by decide) (by decide) (by decide) (by decide) (by decide) (by decide) (by decide) (by decide) (by decide) (by decide)]
          rw [scM_ne (t := 85) (by decide), scM_ne (t := 86) (by decide), scM_ne (t := 87) (by decide), uM_ne (t := 87) (t' := 85) (by decide), uM_ne (t := 86) (t' := 85) (by decide), uM_ne (t := 87) (t' := 86) (by decide)]
          by_cases hj : j < R.length
          · rw [List.getElem?_append_left hj] at hjk
            obtain ⟨a1, a2, a3, a4, a5, a6, a7⟩ := hEn j k hjk
            have hne : k ≠ e := fun z => heR (by rw [← z]; exact List.mem_of_getElem? hjk)
            have hnx : 30 * v + j ≠ 30 * v + R.length := by omega
            rw [mMv_k (by decide) hne, mMv_k (by decide) hne]
            simp only [uM_k hnx]
            rw [mMv_ne (t := 85) (by decide), mMv_ne (t := 86) (by decide), mMv_ne (t := 87) (by decide), List.take_append_of_le_length (by omega)]
            exact ⟨a1, a2, a3, a4, a5, a6, a7⟩
          · have hj' : j = R.length := by
              rcases Nat.lt_or_ge j (R.length + 1) with z | z
              · omega
              · rw [List.getElem?_eq_none (by rw [hlenR]; omega)] at hjk; cases hjk
            subst hj'
            rw [List.getElem?_append_right (Nat.le_refl _), Nat.sub_self] at hjk
            have hek : e = k := Option.some.inj hjk
            subst hek
            rw [mMv_66, mMv_67, uM_kk, uM_kk, uM_kk, List.take_left']
            · exact ⟨hk, rfl, rfl, (hJ.2.2.2.2.2.2.2.2.2.2.1 e hk).2.2.2.2.2.2.1 (Or.inr (by rw [k3]; decide)), rfl, rfl, rfl⟩
            · rfl)
        (fun k hk' z1 z2 => by
          rw [hN26] at hk'
          rw [MM 66 (by decide) (by decide) (by decide) (by decide) (by decide) (by decide) (by decide)] at z1
          rw [MM 67 (by decide) (by decide) (by decide) (by decide) (by decide) (by decide) (by decide)] at z2
          by_cases y : k = e
          · rw [y]; exact List.mem_append_right _ (List.mem_singleton.mpr rfl)
          · rw [mMv_k (by decide) y] at z1 z2
            exact List.mem_append_left _ (h4 k hk' z1 z2))
        (fun k hk' => by
          rw [hN26] at hk'
          rw [MN 78 (by decide) (by decide) (by decide) (by decide) (by decide) (by decide) (by decide) (by decide) (by decide) (by decide)]
          exact h78 k hk')
        (fun k hk' hz => by
          rw [hN26] at hk'
          rw [MN 56 (by decide) (by decide) (by decide) (by decide) (by decide) (by decide) (by decide) (by decide) (by decide) (by decide)] at hz
          rw [t2.2.2.1, MN 78 (by decide) (by decide) (by decide) (by decide) (by decide) (by decide) (by decide) (by decide) (by decide) (by decide)]
          have eP : fP (uL 11 v (R ++ [e]) (cMv e 4 (iN v) none none (m 1 0) c)) 8 k 5 = fP c 8 k 5 := by rw [fP_uL, cMv_P (by decide)]
          rw [eP]
          exact hc k hk' hz)
      refine ⟨c', m', R', n' + 1, by omega, by rw [show i + (n' + 1) = i + 1 + n' by omega]; exact v2, fr_trans f3 v3, v4, v5, v6, v7, v8, v9, v10, v11, ?_, ⟨a2', l4', fun z => ?_⟩, fun c9 z => ?_⟩
      · rw [v12, t2.1 27 (by decide) (by decide), fI_uL, cMv_I (by decide), cOut_I (by decide)]
      · rw [d_123_20, if_pos h40R]
        dsimp only
        rw [hX, n1 z, bR_some, nz_some, nn_some, nn_some, mvR hJ hk (Or.inl rfl), (nJ_ck hJ).1, bV_none, nn_some]
        dsimp only
        rw [hLm, hL, if_pos (by omega), cMv_X, hX, t3 z, bV_none, f2, eL, iN_add1]
        rw [hlenR] at v13
        exact v13 z
      · have e46 : mMv e 4 (iN v) (scM e D 4 m) 46 (gAd c m e) = iN (T e) := by rw [mMv_ne (by decide), scM_ne (by decide)]; exact T1
        have e57 : mMv e 4 (iN v) (scM e D 4 m) 57 e = iN (F e) := by rw [mMv_ne (by decide), scM_ne (by decide)]; exact T3
        have e60 : (60 : Int32) * iN (F e) = iN (60 * F e) := iN_mul (a := 60)
        have r138 : ∀ X : Int32, X = iN (mMx T F (mTm T F S R) e) → R1 xs nx 214 138 [some (vR 1 (some 0)), some (vI (iN v)), some (vI (iN (Lf - s))), some (vI X), some (vI (iN (T e))), some (vI (iN R.length)), some (vI (iN e)), some (vI (iN (T e)))] [(vI X)] (c9, mMv e 4 (iN v) (scM e D 4 m), z) = some (.inl none, (c9, uM 82 v (m' 1 0) (uM 84 v 0 (uM 83 v (iN R'.length) m')), z)) := by
          intro X hX'
          subst hX'
          rw [d_214_138]
          simp only [ide, iden]
          rw [if_pos idin, if_pos idin, if_pos ⟨idin, Or.inl trivial⟩, show iN (mMx T F (mTm T F S R) e) / (60 : Int32) = iN (mMx T F (mTm T F S R) e / 60) from iN_div (b := 60) (by omega) (by omega), scM_mMv, ← scM_uM (by omega), ← scM_uM (by omega), ← scM_uM (by omega)]
          have h14 := v14 c9 z
          rw [hMst, hlenR] at h14
          rw [show iN (mMx T F (mTm T F S R) e) + (5 : Int32) = iN (mMx T F (mTm T F S R) e + 5) from i32_add (b := 5), iN_add1]
          exact h14
        have r138b : ∀ (X a3 : Int32), X = iN (mMx T F (mTm T F S R) e) → R1 xs nx 214 138 [some (vR 1 (some 0)), some (vI (iN v)), some (vI (iN (Lf - s))), some (vI a3), some (vI (iN (T e))), some (vI (iN R.length)), some (vI (iN e)), some (vI (iN (T e)))] [(vI X)] (c9, mMv e 4 (iN v) (scM e D 4 m), z) = some (.inl none, (c9, uM 82 v (m' 1 0) (uM 84 v 0 (uM 83 v (iN R'.length) m')), z)) := by
          intro X a3 hX'
          rw [← r138 X hX', d_214_138, d_214_138]
        have r103 : ∀ d : Nat, d = (if (mTm T F S R).1 < T e then T e - (mTm T F S R).1 else (mTm T F S R).1 - T e) → R1 xs nx 214 103 [some (vR 1 (some 0)), some (vI (iN v)), some (vI (iN (Lf - s))), some (vI (iN (mTm T F S R).2)), some (vI (iN (mTm T F S R).1)), some (vI (iN R.length)), some (vI (iN e)), some (vI (iN (T e)))] [(vI (iN d)), (vI 2), (vI (iN (mTm T F S R).2))] (c9, mMv e 4 (iN v) (scM e D 4 m), z) = some (.inl none, (c9, uM 82 v (m' 1 0) (uM 84 v 0 (uM 83 v (iN R'.length) m')), z)) := by
          intro d hd
          have ed : d ≤ 60 := by
            rw [hd]
            split <;> omega
          have e2 : iN (mTm T F S R).2 + (2 : Int32) * iN d = iN ((mTm T F S R).2 + 2 * d) := by rw [show (2 : Int32) * iN d = iN (2 * d) from iN_mul (a := 2)]; exact i32_add
          have emx : mMx T F (mTm T F S R) e = max ((mTm T F S R).2 + 2 * d) (60 * F e) := by rw [hd]; rfl
          rw [d_214_103, if_pos kin, ken]
          dsimp only
          simp only [e57, e60, e2]
          by_cases q : (mTm T F S R).2 + 2 * d < 60 * F e
          · rw [if_pos ((iN_lt (by omega) (by omega)).mpr q), if_pos kin]
            exact r138b _ _ (by rw [emx, Nat.max_eq_right (by omega)])
          · rw [if_neg (fun w => q ((iN_lt (by omega) (by omega)).mp w))]
            exact r138b _ _ (by rw [emx, Nat.max_eq_left (by omega)])
        rw [n2 c9 z, bI_some, show oI (some e) = iN e from rfl, d_214_31, if_neg (iN_ne1 (by omega)), if_pos kin, if_pos vin, ven]
        dsimp only
        rw [h79, r193 (B := (fL c 19 0).length) hD b1 b2, bV_none, r190 he40, bV_none]
        dsimp only
        rw [g3 c9 (mMv e 4 (iN v) (scM e D 4 m)) z (by rw [mMv_ne (by decide), scM_ne (by decide)]) (by rw [mMv_ne (by decide), scM_ne (by decide)]) (by rw [mMv_ne (by decide), scM_ne (by decide)]), bI_some, if_pos ain, aen]
        dsimp only
        simp only [e46, ken, eL]
        by_cases q : (mTm T F S R).1 < T e
        · rw [if_pos ((iN_lt (by omega) (by omega)).mpr q), show iN (T e) - iN (mTm T F S R).1 = iN (T e - (mTm T F S R).1) from i32_sub (by omega) (by omega)]
          exact r103 _ (by rw [if_pos q])
        · rw [if_neg (fun w => q ((iN_lt (by omega) (by omega)).mp w)), show iN (mTm T F S R).1 - iN (T e) = iN ((mTm T F S R).1 - T e) from i32_sub (by omega) (by omega)]
          exact r103 _ (by rw [if_neg q])
end ORE
end KAP
