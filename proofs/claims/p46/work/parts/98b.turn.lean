/-! ===== forward, giveBack, resolve, duty ===== -/
section KAP
variable {κ : kP}
section OPT
variable {xs : Nat → Int32} {nx : Nat}
/-- may it turn -/
theorem bound66 {i : Nat} {c : nC} {m : nM} (hJ : nJ κ i c m) {k : Nat} (hk : k < fN c 26) :
    (m 66 k ≠ 4 ∧ m 66 k ≠ 5 ∧ m 66 k ≠ 7 ∧ m 66 k ≠ 8 ∧ (∀ s : nS, s.1 = c → R1 xs nx 66 0 [some (vR 26 (some k))] [] s = some (.inl (some (vI 1)), s)) ∧ ∀ s : nS, s.2.1 66 = m 66 → R1 xs nx 228 0 [some (vR 1 (some 0)), some (vI (iN k))] [] s = some (.inl (some (vI 0)), s)) ∨
    ((m 66 k = 4 ∨ m 66 k = 5 ∨ m 66 k = 7 ∨ m 66 k = 8) ∧ (∀ s : nS, s.1 = c → R1 xs nx 66 0 [some (vR 26 (some k))] [] s = some (.inl (some (vI 0)), s)) ∧ ∀ s : nS, s.2.1 66 = m 66 → R1 xs nx 228 0 [some (vR 1 (some 0)), some (vI (iN k))] [] s = some (.inl (some (vI 1)), s)) := by
  obtain ⟨e, -⟩ := kind8 hJ hk
  have h40 := k40 hJ hk
  by_cases h4 : m 66 k = 4
  · refine Or.inr ⟨Or.inl h4, fun s hs => ?_, fun s hs => ?_⟩
    · rw [d_66_0, hs, e, if_pos h4]
    · rw [d_228_0, if_pos (iN_in40 h40), i32_nat (by omega), hs, if_pos h4]
  · by_cases h5 : m 66 k = 5
    · refine Or.inr ⟨Or.inr (Or.inl h5), fun s hs => ?_, fun s hs => ?_⟩
      · rw [d_66_0, hs, e, if_neg h4, if_pos h5]
      · rw [d_228_0, if_pos (iN_in40 h40), i32_nat (by omega), hs, if_neg h4, if_pos (iN_in40 h40), if_pos h5]
    · rcases over65 (xs := xs) (nx := nx) hJ hk with ⟨h7, h8, o1, o2⟩ | ⟨h78, o1, o2⟩
      · refine Or.inl ⟨h4, h5, h7, h8, fun s hs => ?_, fun s hs => ?_⟩
        · rw [d_66_0, hs, e, if_neg h4, if_neg h5, o1 s hs, bI_some, if_pos rfl]
        · rw [d_228_0, if_pos (iN_in40 h40), i32_nat (by omega), hs, if_neg h4, if_pos (iN_in40 h40), if_neg h5, o2 s hs, bI_some, if_pos rfl]
      · refine Or.inr ⟨Or.inr (Or.inr h78), fun s hs => ?_, fun s hs => ?_⟩
        · rw [d_66_0, hs, e, if_neg h4, if_neg h5, o1 s hs, bI_some, if_neg n10]
        · rw [d_228_0, if_pos (iN_in40 h40), i32_nat (by omega), hs, if_neg h4, if_pos (iN_in40 h40), if_neg h5, o2 s hs, bI_some, if_neg n10]
theorem bV_none {s : nS} {K : nS → Option nOut} {h : Nat → nS → Option nOut} : bV (some (.inl none, s)) K h = K s := rfl
theorem mMv0_76 {k : Nat} {w a : Int32} {m : nM} : mMv k w a m 1 76 = m 1 76 := mMv_1 (by decide)
section MC
variable {k : Nat} {w a ck : Int32} {D : Option Nat} {q : Option (Nat × Nat)} {c c' : nC}
theorem cMv_Pe : fP (cMv k w a D q ck c) = up3 (up3 (fP c) 9 k 5 none) 9 k 3 D := by
  unfold cMv cMv0
  split <;> (show up3 (up3 (fP (cOut k c)) 9 k 5 none) 9 k 3 D = _; rw [cOut_P])
theorem cMv_cI (eI : ∀ t, t ≠ 26 → fI c' t = fI c t) (eP : ∀ t, t ≠ 26 → fP c' t = fP c t) {t : Nat} (ht : t ≠ 26) : fI (cMv k w a D q ck c') t = fI (cMv k w a D q ck c) t := by
  funext b j
  by_cases h9 : t = 9
  · subst h9
    by_cases hb : b = k
    · subst hb; rw [cMv_9, cMv_9, eI 9 ht]
    · rw [cMv_9n hb, cMv_9n hb, eI 9 ht]
  · rw [cMv_I h9, cMv_I h9]
    by_cases h7 : t = 7
    · subst h7; rw [cOut_7, cOut_7, eI 9 (by decide), eI 7 (by decide), eP 9 (by decide)]
    · rw [cOut_I h7, cOut_I h7, eI t ht]
theorem cMv_cP (eP : ∀ t, t ≠ 26 → fP c' t = fP c t) {t : Nat} (ht : t ≠ 26) : fP (cMv k w a D q ck c') t = fP (cMv k w a D q ck c) t := by
  rw [cMv_Pe, cMv_Pe]
  funext b j
  simp only [up3, eP t ht]
theorem cMv_c2 (e : c'.2.2.2 = c.2.2.2) : (cMv k w a D q ck c').2.2.2 = (cMv k w a D q ck c).2.2.2 := by
  have e3 : fQ c' = fQ c := congrArg (·.1) e
  have e4 : fL c' = fL c := congrArg (·.2.1) e
  have e5 : fN c' = fN c := congrArg (·.2.2) e
  refine Prod.ext ?_ (Prod.ext ?_ ?_)
  · show fQ _ = fQ _
    funext b
    by_cases hb : b = k
    · subst hb; rw [cMv_Q, cMv_Q]
    · rw [cMv_Qn hb, cMv_Qn hb, e3]
  · show fL _ = fL _
    funext t l
    rw [cMv_L, cMv_L, cOut_L, cOut_L, e3, e4]
  · show fN _ = fN _
    rw [cMv_N, cMv_N, e5]
/-- a parcel comes to the sorting of a depot and has other fields of its own there -/
theorem parMvr {i d : Nat} {m m' : nM} (hJ : nJ κ i c m) (hi : i % 100000 < 90000) (hk : k < fN c 26) (h7 : m 66 k ≠ 7) (hr : ∀ v, v < fN c 27 → i / 100000 ≠ 2 + v → k ∉ fL c 11 v) (hd : d < 5)
    (eI : ∀ t, t ≠ 26 → fI c' t = fI c t) (eX : ∀ t, t ≠ 26 → fX c' t = fX c t) (eP : ∀ t, t ≠ 26 → fP c' t = fP c t) (e2 : c'.2.2.2 = c.2.2.2)
    (eIk : ∀ k' j, k' ≠ k → fI c' 26 k' j = fI c 26 k' j) (eXk : ∀ k' j, k' ≠ k → fX c' 26 k' j = fX c 26 k' j) (ePk : ∀ k' j, k' ≠ k → fP c' 26 k' j = fP c 26 k' j)
    (mt : ∀ t, (t < 51 ∨ 65 < t ∨ t = 56 ∨ t = 62) → m' t = m t) (mk : ∀ t k', k' ≠ k → m' t k' = m t k')
    (hP : nPar (fI c' 26 k) (fI c' 8 k) (fX c' 26 k) (fP c' 26 k) (fN c 24) (m 1 0) (m' 49) (m' 50) (m' 51) (m' 52) (m' 53) (m' 54) (m' 55) (m' 56) (m' 57) (m' 58) (m' 59) (m' 60) (m' 61) (m' 62) (m' 63) (m' 64) (m' 65) (m' 76) k) :
    nJ κ (i + 1) (cMv k 0 (iN d) (some d) (some (3, d)) (m' 1 0) c') (mMv k 0 (iN d) m') := by
  have h0 := put0r hJ hi hk h7 hr hd
  have ck : m' 1 0 = m 1 0 := by rw [mt 1 (Or.inl (by decide))]
  rw [ck]
  have hN : fN (cMv k 0 (iN d) (some d) (some (3, d)) (m 1 0) c) = fN c := cMv_N
  have e8 : fI (cMv k 0 (iN d) (some d) (some (3, d)) (m 1 0) c') 8 = fI (cMv k 0 (iN d) (some d) (some (3, d)) (m 1 0) c) 8 := cMv_cI eI eP (by decide)
  have m66 : mMv k 0 (iN d) m 66 k = 0 := mMv_66
  have mT : ∀ t, (t < 51 ∨ 65 < t ∨ t = 56 ∨ t = 62) → mMv k 0 (iN d) m' t = mMv k 0 (iN d) m t := by
    intro t ht
    have e := mt t ht
    have e1 := mt 1 (Or.inl (by decide))
    funext j
    show (if t = 1 ∧ j = 1 then m' 1 1 + 1 else if t = 68 ∧ j = k then m' 1 1 else if t = 67 ∧ j = k then iN d else if t = 66 ∧ j = k then 0 else m' t j) = (if t = 1 ∧ j = 1 then m 1 1 + 1 else if t = 68 ∧ j = k then m 1 1 else if t = 67 ∧ j = k then iN d else if t = 66 ∧ j = k then 0 else m t j)
    rw [e, e1]
  refine nJ_par (k := k) h0 (fun t t1 t2 => cMv_cI eI eP t1) (fun t t1 => by rw [cMv_X, cMv_X, eX t t1]) (fun t t1 => cMv_cP eP t1) (cMv_c2 e2) (fun t k' j h => ?_) (fun t k' j h => ?_) (fun t k' j h => ?_) (fun t h => mT t (by omega)) (fun t k' h => ?_) (by rw [hN]; exact hk) ?_ ?_ (Or.inr ⟨by rw [m66]; decide, by rw [m66]; decide⟩) (Or.inr ⟨by rw [m66]; decide, by rw [m66]; decide⟩) (Or.inl ⟨by rw [mT 49 (Or.inl (by decide))], by rw [mT 50 (Or.inl (by decide))]⟩)
  · by_cases e : t = 26
    · subst e; rw [cMv_I (by decide), cMv_I (by decide), cOut_I (by decide), cOut_I (by decide), eIk k' j h]
    · rw [cMv_cI eI eP e]
  · rw [cMv_X, cMv_X]
    by_cases e : t = 26
    · subst e; exact eXk k' j h
    · rw [eX t e]
  · by_cases e : t = 26
    · subst e; rw [cMv_P (by decide), cMv_P (by decide), ePk k' j h]
    · rw [cMv_cP eP e]
  · by_cases e : t = 1
    · subst e; rw [mT 1 (Or.inl (by decide))]
    · rw [mMv_k e h, mMv_k e h, mk t k' h]
  · have g := hP
    rw [cMv_I (t := 26) (by decide), cOut_I (t := 26) (by decide), cMv_I (t := 8) (by decide), cOut_I (t := 8) (by decide), cMv_X, cMv_P (t := 26) (by decide), hN]
    simp (disch := decide) only [mMv_ne, mMv_1]
    exact g
  · have hM := h0.2.2.2.2.2.2.2.2.2.2.1 k (by rw [hN]; exact hk)
    rw [e8]
    simp (disch := decide) only [mT, true_or, or_true]
    exact hM
theorem parMv {i d : Nat} {m m' : nM} (hJ : nJ κ i c m) (hi : i % 100000 < 90000) (hk : k < fN c 26) (h4 : m 66 k ≠ 4) (h7 : m 66 k ≠ 7) (hd : d < 5)
    (eI : ∀ t, t ≠ 26 → fI c' t = fI c t) (eX : ∀ t, t ≠ 26 → fX c' t = fX c t) (eP : ∀ t, t ≠ 26 → fP c' t = fP c t) (e2 : c'.2.2.2 = c.2.2.2)
    (eIk : ∀ k' j, k' ≠ k → fI c' 26 k' j = fI c 26 k' j) (eXk : ∀ k' j, k' ≠ k → fX c' 26 k' j = fX c 26 k' j) (ePk : ∀ k' j, k' ≠ k → fP c' 26 k' j = fP c 26 k' j)
    (mt : ∀ t, (t < 51 ∨ 65 < t ∨ t = 56 ∨ t = 62) → m' t = m t) (mk : ∀ t k', k' ≠ k → m' t k' = m t k')
    (hP : nPar (fI c' 26 k) (fI c' 8 k) (fX c' 26 k) (fP c' 26 k) (fN c 24) (m 1 0) (m' 49) (m' 50) (m' 51) (m' 52) (m' 53) (m' 54) (m' 55) (m' 56) (m' 57) (m' 58) (m' 59) (m' 60) (m' 61) (m' 62) (m' 63) (m' 64) (m' 65) (m' 76) k) :
    nJ κ (i + 1) (cMv k 0 (iN d) (some d) (some (3, d)) (m' 1 0) c') (mMv k 0 (iN d) m') :=
  parMvr hJ hi hk h7 (nJ_nl hJ h4 h7) hd eI eX eP e2 eIk eXk ePk mt mk hP
/-- the run of such a move -/
theorem r127s {i d : Nat} {m : nM} {xs : Nat → Int32} {nx : Nat} (hJ : nJ κ i c m) (hk : k < fN c 26) (hd : d < 5) (eI : ∀ t, t ≠ 26 → fI c' t = fI c t) (eP : ∀ t, t ≠ 26 → fP c' t = fP c t) (e2 : c'.2.2.2 = c.2.2.2) (h3 : fP c 9 k 3 = some d) {z : nM × Nat × (Nat → Int64)} :
    R1 xs nx 127 0 [some (vR 0 (some 0)), some (vR 26 (some k)), none] [] (c', z) = some (.inl none, (cMv k 0 (iN d) (some d) (some (3, d)) (m 1 0) c', z)) := by
  have e3 : fQ c' = fQ c := congrArg (·.1) e2
  have e4 : fL c' = fL c := congrArg (·.2.1) e2
  rw [d_127_0]
  show nz (fP c' 9 k 3) _ _ = _
  rw [eP 9 (by decide), h3, nz_some, d_94_0]
  show bV (bV (R1 xs nx 57 0 [some (vR 26 (some k)), some (vI (0 : Int32)), some (vI (iN d)), some (vR 21 (some d)), some (vL (some (3, d))), some (vI (fI c' 0 0 9)), none, none] [] (c', z)) _ _) _ _ = _
  rw [mv57 (by rw [e3, e4]; exact nJ_line hJ hk) (by rw [eP 9 (by decide), eI 9 (by decide)]; exact nJ_lk hJ hk) ?_, eI 0 (by decide), (nJ_ck hJ).1]
  · rfl
  · intro p hp
    obtain ⟨g1, g2, g3⟩ := hJ.2.2.2.2.2.2.2.2.2.1
    have h26 := hJ.1.2.2.1.1
    cases hp
    refine ⟨rfl, ?_⟩
    rw [cOut_L, e3, e4]
    have h := nLin_le (g1 d hd)
    dsimp only
    split
    · have := List.length_erase_le (l := fL c 3 d) (a := k); omega
    · omega
end MC
/-- a parcel is sorted anew, if it was sorted here -/
theorem turnJ {i k : Nat} {c0 c : nC} {m0 m : nM} (hJ0 : nJ κ i c0 m0) (hi : i % 100000 < 90000) (hk : k < fN c0 26)
    (eI : ∀ t, t ≠ 26 → fI c t = fI c0 t) (eX : ∀ t, t ≠ 26 → fX c t = fX c0 t) (eP : ∀ t, t ≠ 26 → fP c t = fP c0 t) (e2 : c.2.2.2 = c0.2.2.2) (mt : ∀ t, (t < 49 ∨ 65 < t ∨ t = 56 ∨ t = 62) → m t = m0 t)
    (hN : m0 66 k ≠ 3 → nJ κ i (uI 26 k 15 0 (uP 26 k 11 none c)) m)
    (hB : ∀ d, d < 5 → nJ κ (i + 1) (cMv k 0 (iN d) (some d) (some (3, d)) (m 1 0) (uI 26 k 15 0 (uP 26 k 11 none c))) (mMv k 0 (iN d) m)) :
    ∃ (c' : nC) (m' : nM), nJ κ (i + 1) c' m' ∧ fN c' = fN c ∧ (∀ z, R1 xs nx 130 0 [some (vR 0 (some 0)), some (vR 26 (some k))] [] (c, z) = some (.inl none, (c', z))) ∧ (∀ c9 z, R1 xs nx 227 0 [some (vR 1 (some 0)), some (vI (iN k))] [] (c9, m, z) = some (.inl none, (c9, m', z))) ∧ m' 1 76 = m 1 76 ∧ (m' 66 k ≠ 1 ∧ m' 66 k ≠ 3) ∧ m' 1 0 = m 1 0 ∧ ∀ t, 49 ≤ t → t ≤ 65 → m' t = m t := by
  obtain ⟨e, -⟩ := kind8 hJ0 hk
  have h40 := k40 hJ0 hk
  have hin : mIn (iN k) 40 = true := iN_in40 h40
  have en : (iN k).toNatClampNeg = k := i32_nat (by omega)
  have eI' : ∀ t, t ≠ 26 → fI (uI 26 k 15 0 (uP 26 k 11 none c)) t = fI c0 t := fun t t1 => by rw [fI_ne t1, fI_uP, eI t t1]
  have eP' : ∀ t, t ≠ 26 → fP (uI 26 k 15 0 (uP 26 k 11 none c)) t = fP c0 t := fun t t1 => by rw [fP_uI, fP_ne t1, eP t t1]
  have e' : fI (uI 26 k 15 0 (uP 26 k 11 none c)) 9 k 0 = m 66 k := by rw [eI' 9 (by decide), e, mt 66 (by omega)]
  have e66 : m 66 k = m0 66 k := by rw [mt 66 (by omega)]
  have ck : m 1 0 = m0 1 0 := by rw [mt 1 (by omega)]
  have R : ∀ d, d < 5 → fP c0 9 k 3 = some d → ∀ z, R1 xs nx 127 0 [some (vR 0 (some 0)), some (vR 26 (some k)), none] [] (uI 26 k 15 0 (uP 26 k 11 none c), z) = some (.inl none, (cMv k 0 (iN d) (some d) (some (3, d)) (m 1 0) (uI 26 k 15 0 (uP 26 k 11 none c)), z)) := by
    intro d hd h3 z
    rw [ck]
    exact r127s hJ0 hk hd eI' eP' e2 h3
  by_cases h1 : m 66 k = 1
  · obtain ⟨l, l1, l2, l3⟩ := sty1 hJ0 hk (e66 ▸ h1)
    obtain ⟨⟨x1, x2⟩, -⟩ := hJ0.2.2.2.1.1 l l1
    have h12 := hJ0.1.1.1
    refine ⟨_, _, hB _ x1, cMv_N, fun z => ?_, fun c9 z => ?_, mMv0_76, ⟨by rw [mMv_66]; decide, by rw [mMv_66]; decide⟩, mMv_1 (by decide), fun t t1 t2 => mMv_ne (by omega)⟩
    · rw [d_130_0, d_71_0, bV_none]
      dsimp only
      rw [e', if_pos h1, d_130_33, R _ x1 l3]
      rfl
    · rw [d_227_0, if_pos hin, en]
      dsimp only
      rw [if_pos h1, if_pos hin]
      have l2' : m 67 k = iN l := by rw [mt 67 (by omega), l2]
      have x2' : m 35 l = iN (fX c0 23 l 1) := by rw [mt 35 (by omega), x2]
      simp only [l2']
      rw [if_pos (mIn_iff.mpr ⟨i32_pos (by omega), by rw [i32_nat (by omega)]; omega⟩), i32_nat (by omega), x2', r191 h40]
      rfl
  · by_cases h3 : m 66 k = 3
    · obtain ⟨d, l1, l2, l3⟩ := sty3 hJ0 hk (e66 ▸ h3)
      refine ⟨_, _, hB d l1, cMv_N, fun z => ?_, fun c9 z => ?_, mMv0_76, ⟨by rw [mMv_66]; decide, by rw [mMv_66]; decide⟩, mMv_1 (by decide), fun t t1 t2 => mMv_ne (by omega)⟩
      · rw [d_130_0, d_71_0, bV_none]
        dsimp only
        rw [e', if_neg h1, if_pos h3, d_130_33, R _ l1 l3]
        rfl
      · rw [d_227_0, if_pos hin, en]
        dsimp only
        rw [if_neg h1, if_pos hin, if_pos h3, d_227_59, if_pos hin, en]
        dsimp only
        rw [show m 67 k = iN d by rw [mt 67 (by omega), l2], r191 h40]
        rfl
    · have hJ := hN (e66 ▸ h3)
      by_cases h6 : m 66 k = 6
      · obtain ⟨d, l1, l2, l3, l4, l5⟩ := sty6 hJ0 hk (e66 ▸ h6)
        have e73 : m 73 = m0 73 := mt 73 (by omega)
        rw [← e73] at l4 l5
        have l4' : fI (uI 26 k 15 0 (uP 26 k 11 none c)) 9 k 8 = m 73 k := by rw [eI' 9 (by decide)]; exact l4
        by_cases h0 : m 73 k = 0
        · refine ⟨_, _, hB d l1, cMv_N, fun z => ?_, fun c9 z => ?_, mMv0_76, ⟨by rw [mMv_66]; decide, by rw [mMv_66]; decide⟩, mMv_1 (by decide), fun t t1 t2 => mMv_ne (by omega)⟩
          · rw [d_130_0, d_71_0, bV_none]
            dsimp only
            rw [e', if_neg h1, if_neg h3, d_67_0]
            dsimp only
            rw [e', if_pos h6, l4', if_pos h0, bI_some, if_neg n10, d_130_33, R _ l1 l3]
            rfl
          · rw [d_227_0, if_pos hin, en]
            dsimp only
            rw [if_neg h1, if_pos hin, if_neg h3, if_pos hin, if_pos h6, if_pos hin, if_pos h0, d_227_59, if_pos hin, en]
            dsimp only
            rw [show m 67 k = iN d by rw [mt 67 (by omega), l2], r191 h40]
            rfl
        · refine ⟨_, _, nJ_up hJ, rfl, fun z => ?_, fun c9 z => ?_, rfl, ⟨h1, h3⟩, rfl, fun _ _ _ => rfl⟩
          · rw [d_130_0, d_71_0, bV_none]
            dsimp only
            rw [e', if_neg h1, if_neg h3, d_67_0]
            dsimp only
            rw [e', if_pos h6, l4', if_neg h0, bI_some, if_pos rfl]
          · rw [d_227_0, if_pos hin, en]
            dsimp only
            rw [if_neg h1, if_pos hin, if_neg h3, if_pos hin, if_pos h6, if_pos hin, if_neg h0]
      · refine ⟨_, _, nJ_up hJ, rfl, fun z => ?_, fun c9 z => ?_, rfl, ⟨h1, h3⟩, rfl, fun _ _ _ => rfl⟩
        · rw [d_130_0, d_71_0, bV_none]
          dsimp only
          rw [e', if_neg h1, if_neg h3, d_67_0]
          dsimp only
          rw [e', if_neg h6, bI_some, if_pos rfl]
        · rw [d_227_0, if_pos hin, en]
          dsimp only
          rw [if_neg h1, if_pos hin, if_neg h3, if_pos hin, if_neg h6]
/-- forward -/
abbrev zP17 (κ : kP) (a1 a2 : Int32) (c : nC) (m : nM) (κ' : kP) (c' : nC) (m' : nM) (v : Int32) : Prop := (∃ k a, k < fN c 26 ∧ a1 = iN k ∧ a < fN c 24 ∧ a2 = iN a ∧ m 66 k ≠ 4 ∧ m 66 k ≠ 5 ∧ m 66 k ≠ 7 ∧ m 66 k ≠ 8 ∧ m' 52 k = a2 ∧ m' 63 k = 0 ∧ m' 65 k = 0 ∧ m' 66 k ≠ 1 ∧ m' 66 k ≠ 3 ∧ v = iN (tgD c' m' k)) ∧ κ' = κ ∧ m' 1 0 = m 1 0
abbrev zF17 (a1 a2 : Int32) (c : nC) (m : nM) (E : Nat) : Prop := f3 (¬ (∃ k, k < fN c 26 ∧ a1 = iN k) ∨ ¬ (∃ k, k < fN c 24 ∧ a2 = iN k)) False ((∃ k, k < fN c 26 ∧ a1 = iN k ∧ (m 66 k = 4 ∨ m 66 k = 5 ∨ m 66 k = 7 ∨ m 66 k = 8)) ∧ ∃ k, k < fN c 24 ∧ a2 = iN k) E
theorem op17 : ∀ i, i < 512 → ∀ (a1 a2 : Int32), nDoes κ (zP17 κ a1 a2) (zF17 a1 a2) i [(0, 1), (2, 2)] (fun s => R1 xs nx 131 0 [some (vR 0 (some 0)), some (vI a1), some (vI a2), none, none] [] s) (fun s => R1 xs nx 229 0 [some (vR 1 (some 0)), some (vI a1), some (vI a2), none] [] s) := by
  intro i hi a1 a2 s hJ
  rcases idx97 (xs := xs) (nx := nx) hJ a1 with ⟨h1, h2⟩ | ⟨k, hk, ea, hin, en, h1, h2⟩
  · exact nFail (hF := Or.inl (nd97 hJ rfl (h1 s rfl))) (E := 0) (e := 1) (v := 0) hJ (by simp only [d_131_0, h1 s rfl, bR, hE]) (fun z => by simp only [d_229_0, h2 (s.1, s.2.1, z) rfl, bI, if_true, d_229_20, d_229_21, d_229_44, r172_1, n10, if_false]) rfl n10
  · rcases idx90 (xs := xs) (nx := nx) hJ a2 with ⟨g1, g2⟩ | ⟨a, ha, eb, gin, gn, g1, g2⟩
    · exact nFail (hF := Or.inr (nd90 hJ rfl (g1 s rfl))) (E := 0) (e := 1) (v := 0) hJ (by simp only [d_131_0, h1 s rfl, bR, ntg_self, g1 s rfl, hE]) (fun z => by simp only [d_229_0, h2 (s.1, s.2.1, z) rfl, g2 (s.1, s.2.1, z) rfl, bI, if_true, d_229_20, d_229_21, d_229_44, r172_1, n10, if_false]) rfl n10
    · subst ea
      have h40 := k40 hJ hk
      rcases bound66 (xs := xs) (nx := nx) hJ hk with ⟨h4, h5, h7, h8, o1, o2⟩ | ⟨hbd, o1, o2⟩
      · have hP := hJ.2.2.2.2.2.1 k hk
        have hM := hJ.2.2.2.2.2.2.2.2.2.2.1 k hk
        have hP' : nPar (fI (uI 26 k 15 0 (uP 26 k 11 none (uI 26 k 16 0 (uX 26 k 10 a s.1)))) 26 k) (fI (uI 26 k 15 0 (uP 26 k 11 none (uI 26 k 16 0 (uX 26 k 10 a s.1)))) 8 k) (fX (uI 26 k 15 0 (uP 26 k 11 none (uI 26 k 16 0 (uX 26 k 10 a s.1)))) 26 k) (fP (uI 26 k 15 0 (uP 26 k 11 none (uI 26 k 16 0 (uX 26 k 10 a s.1)))) 26 k) (fN s.1 24) ((uM 1 76 0 s.2.1) 1 0) ((uM 60 k (-1) (uM 65 k 0 (uM 63 k 0 (uM 52 k a2 (uM 1 76 0 s.2.1))))) 49) ((uM 60 k (-1) (uM 65 k 0 (uM 63 k 0 (uM 52 k a2 (uM 1 76 0 s.2.1))))) 50) ((uM 60 k (-1) (uM 65 k 0 (uM 63 k 0 (uM 52 k a2 (uM 1 76 0 s.2.1))))) 51) ((uM 60 k (-1) (uM 65 k 0 (uM 63 k 0 (uM 52 k a2 (uM 1 76 0 s.2.1))))) 52) ((uM 60 k (-1) (uM 65 k 0 (uM 63 k 0 (uM 52 k a2 (uM 1 76 0 s.2.1))))) 53) ((uM 60 k (-1) (uM 65 k 0 (uM 63 k 0 (uM 52 k a2 (uM 1 76 0 s.2.1))))) 54) ((uM 60 k (-1) (uM 65 k 0 (uM 63 k 0 (uM 52 k a2 (uM 1 76 0 s.2.1))))) 55) ((uM 60 k (-1) (uM 65 k 0 (uM 63 k 0 (uM 52 k a2 (uM 1 76 0 s.2.1))))) 56) ((uM 60 k (-1) (uM 65 k 0 (uM 63 k 0 (uM 52 k a2 (uM 1 76 0 s.2.1))))) 57) ((uM 60 k (-1) (uM 65 k 0 (uM 63 k 0 (uM 52 k a2 (uM 1 76 0 s.2.1))))) 58) ((uM 60 k (-1) (uM 65 k 0 (uM 63 k 0 (uM 52 k a2 (uM 1 76 0 s.2.1))))) 59) ((uM 60 k (-1) (uM 65 k 0 (uM 63 k 0 (uM 52 k a2 (uM 1 76 0 s.2.1))))) 60) ((uM 60 k (-1) (uM 65 k 0 (uM 63 k 0 (uM 52 k a2 (uM 1 76 0 s.2.1))))) 61) ((uM 60 k (-1) (uM 65 k 0 (uM 63 k 0 (uM 52 k a2 (uM 1 76 0 s.2.1))))) 62) ((uM 60 k (-1) (uM 65 k 0 (uM 63 k 0 (uM 52 k a2 (uM 1 76 0 s.2.1))))) 63) ((uM 60 k (-1) (uM 65 k 0 (uM 63 k 0 (uM 52 k a2 (uM 1 76 0 s.2.1))))) 64) ((uM 60 k (-1) (uM 65 k 0 (uM 63 k 0 (uM 52 k a2 (uM 1 76 0 s.2.1))))) 65) ((uM 60 k (-1) (uM 65 k 0 (uM 63 k 0 (uM 52 k a2 (uM 1 76 0 s.2.1))))) 76) k := by
          obtain ⟨y1, y2, y3, y4, y5, y6, y7, y8, y9, y10, y11, y12, y13, y14, y15, y16, y17, y18⟩ := hP
          unfold nPar
          simp (disch := decide) only [fI_k, fX_k, fP_k, fI_uP, fI_uX, fX_uP, fX_uI, fP_uX, fP_uI, fI_ne, uM_ne, uM1_ne, uM_kk]
          exact ⟨y1, y2, y3, ⟨ha, eb⟩, y5, y6, y7, y8, y9, y10, y11, y12, y13, y14, by trivial, y16, ⟨by trivial, Or.inl rfl⟩, ⟨by trivial, 0, by omega, by omega, rfl⟩⟩
        obtain ⟨c', m', t1, t2, t3, t4, t5, ⟨t6, t7⟩, t9, t8⟩ := turnJ (xs := xs) (nx := nx) (k := k) (c := uI 26 k 16 0 (uX 26 k 10 a s.1)) (m := uM 60 k (-1) (uM 65 k 0 (uM 63 k 0 (uM 52 k a2 (uM 1 76 0 s.2.1))))) (nJ_76 (x := 0) hJ) (by omega) hk (fun t t1 => by rw [fI_ne t1, fI_uX]) (fun t t1 => by rw [fX_uI, fX_ne t1]) (fun t t1 => rfl) rfl (fun t h => by rw [uM_ne (by omega), uM_ne (by omega), uM_ne (by omega), uM_ne (by omega)])
          (fun h3 => nJ_par (k := k) (nJ_76 (x := 0) hJ) (fun t t1 t2 => by rw [fI_ne t1, fI_uP, fI_ne t1, fI_uX]) (fun t t1 => fX_ne t1) (fun t t1 => fP_ne t1) rfl (fun t x j h => by rw [fI_n h, fI_uP, fI_n h, fI_uX]) (fun t x j h => fX_n h) (fun t x j h => fP_n h) (fun t h => by rw [uM_ne (by omega), uM_ne (by omega), uM_ne (by omega), uM_ne (by omega)]) (fun t x h => by rw [uM_k h, uM_k h, uM_k h, uM_k h]) hk hP'
            (by simp (disch := decide) only [fI_ne, fI_uP, fI_uX, uM_ne]; exact hM) (Or.inr ⟨by rw [uM_ne (by decide)]; exact h4, by rw [uM_ne (by decide)]; exact h7⟩) (Or.inr ⟨h3, by rw [uM_ne (by decide)]; exact h4⟩))
          (fun d hd => parMv (nJ_76 (x := 0) hJ) (by omega) hk (by rw [uM_ne (by decide)]; exact h4) (by rw [uM_ne (by decide)]; exact h7) hd (fun t t1 => by rw [fI_ne t1, fI_uP, fI_ne t1, fI_uX]) (fun t t1 => fX_ne t1) (fun t t1 => fP_ne t1) rfl (fun x j h => by rw [fI_n h, fI_uP, fI_n h, fI_uX]) (fun x j h => fX_n h) (fun x j h => fP_n h) (fun t h => by rw [uM_ne (by omega), uM_ne (by omega), uM_ne (by omega), uM_ne (by omega)]) (fun t x h => by rw [uM_k h, uM_k h, uM_k h, uM_k h]) hP')
        obtain ⟨D, -, eD, d1, d2⟩ := tgt64 (xs := xs) (nx := nx) (k := k) t1 (by rw [t2]; exact hk)
        refine nDoneU (hP := ⟨⟨k, a, hk, rfl, ha, eb, h4, h5, h7, h8, by rw [t8 52 (by decide) (by decide)]; simp (disch := decide) only [uM_ne, uM_kk], by rw [t8 63 (by decide) (by decide)]; simp (disch := decide) only [uM_ne, uM_kk], by rw [t8 65 (by decide) (by decide)]; simp (disch := decide) only [uM_ne, uM_kk], t6, t7, by rw [eD]; rfl⟩, rfl, by rw [t9]; simp (disch := decide) only [uM_ne, uM1_ne]⟩) (v := iN D) t1 ?_ (fun z => ?_) ?_
        · simp only [d_131_0, h1 s rfl, bR, ntg_self, nn_some, g1 s rfl, o1 s rfl, bI, c84_1, bV, t3, d1]
        · simp only [d_229_0, h2 (c', s.2.1, z) rfl, g2 (c', s.2.1, z) rfl, bI, n10, if_false, d_229_21, o2 (c', s.2.1, z) rfl, if_true, d_229_44, r172_0, hin, true_and, true_or, en, t4, bV, d2 c' m' z rfl rfl rfl rfl]
        · rw [t5]
          simp (disch := decide) only [uM_ne, uM_self]
      · exact nFail (hF := ⟨⟨k, hk, rfl, hbd⟩, a, ha, eb⟩) (E := 2) (e := 2) (v := 0) hJ (by simp only [d_131_0, h1 s rfl, bR, ntg_self, nn_some, g1 s rfl, o1 s rfl, bI, c84_0, bV, hE]) (fun z => by simp only [d_229_0, h2 (s.1, s.2.1, z) rfl, g2 (s.1, s.2.1, z) rfl, bI, n10, if_false, d_229_21, o2 (s.1, s.2.1, z) rfl, d_229_44, r172_2]) rfl n20
/-- giveBack -/
abbrev zP18 (κ : kP) (a1 : Int32) (c : nC) (m : nM) (κ' : kP) (c' : nC) (m' : nM) (v : Int32) : Prop := (∃ k, k < fN c 26 ∧ a1 = iN k ∧ m 63 k = 0 ∧ m 66 k ≠ 4 ∧ m 66 k ≠ 5 ∧ m 66 k ≠ 7 ∧ m 66 k ≠ 8 ∧ m' 63 k = 1 ∧ m' 65 k = 0 ∧ m' 66 k ≠ 1 ∧ m' 66 k ≠ 3 ∧ v = iN (tgD c' m' k)) ∧ κ' = κ ∧ m' 1 0 = m 1 0
abbrev zF18 (a1 : Int32) (c : nC) (m : nM) (E : Nat) : Prop := f3 (¬ (∃ k, k < fN c 26 ∧ a1 = iN k)) False (∃ k, k < fN c 26 ∧ a1 = iN k ∧ (¬ m 63 k = 0 ∨ (m 66 k = 4 ∨ m 66 k = 5 ∨ m 66 k = 7 ∨ m 66 k = 8))) E
theorem op18 : ∀ i, i < 512 → ∀ (a1 : Int32), nDoes κ (zP18 κ a1) (zF18 a1) i [(0, 1), (2, 2)] (fun s => R1 xs nx 132 0 [some (vR 0 (some 0)), some (vI a1), none] [] s) (fun s => R1 xs nx 230 0 [some (vR 1 (some 0)), some (vI a1), none] [] s) := by
  intro i hi a1 s hJ
  rcases idx97 (xs := xs) (nx := nx) hJ a1 with ⟨h1, h2⟩ | ⟨k, hk, ea, hin, en, h1, h2⟩
  · exact nFail (hF := nd97 hJ rfl (h1 s rfl)) (E := 0) (e := 1) (v := 0) hJ (by simp only [d_132_0, h1 s rfl, bR, hE]) (fun z => by simp only [d_230_0, h2 (s.1, s.2.1, z) rfl, bI, if_true, d_230_37, r172_1, n10, if_false]) rfl n10
  · subst ea
    have h40 := k40 hJ hk
    have hP := hJ.2.2.2.2.2.1 k hk
    have hM := hJ.2.2.2.2.2.2.2.2.2.2.1 k hk
    have e16 := hP.2.2.2.2.2.2.2.2.2.2.2.2.2.2.2.2.1.1
    by_cases h0 : s.2.1 63 k = 0
    · rcases bound66 (xs := xs) (nx := nx) hJ hk with ⟨h4, h5, h7, h8, o1, o2⟩ | ⟨hbd, o1, o2⟩
      · have hP' : nPar (fI (uI 26 k 15 0 (uP 26 k 11 none (uI 26 k 16 1 s.1))) 26 k) (fI (uI 26 k 15 0 (uP 26 k 11 none (uI 26 k 16 1 s.1))) 8 k) (fX (uI 26 k 15 0 (uP 26 k 11 none (uI 26 k 16 1 s.1))) 26 k) (fP (uI 26 k 15 0 (uP 26 k 11 none (uI 26 k 16 1 s.1))) 26 k) (fN s.1 24) ((uM 1 76 0 s.2.1) 1 0) ((uM 60 k (-1) (uM 65 k 0 (uM 63 k 1 (uM 1 76 0 s.2.1)))) 49) ((uM 60 k (-1) (uM 65 k 0 (uM 63 k 1 (uM 1 76 0 s.2.1)))) 50) ((uM 60 k (-1) (uM 65 k 0 (uM 63 k 1 (uM 1 76 0 s.2.1)))) 51) ((uM 60 k (-1) (uM 65 k 0 (uM 63 k 1 (uM 1 76 0 s.2.1)))) 52) ((uM 60 k (-1) (uM 65 k 0 (uM 63 k 1 (uM 1 76 0 s.2.1)))) 53) ((uM 60 k (-1) (uM 65 k 0 (uM 63 k 1 (uM 1 76 0 s.2.1)))) 54) ((uM 60 k (-1) (uM 65 k 0 (uM 63 k 1 (uM 1 76 0 s.2.1)))) 55) ((uM 60 k (-1) (uM 65 k 0 (uM 63 k 1 (uM 1 76 0 s.2.1)))) 56) ((uM 60 k (-1) (uM 65 k 0 (uM 63 k 1 (uM 1 76 0 s.2.1)))) 57) ((uM 60 k (-1) (uM 65 k 0 (uM 63 k 1 (uM 1 76 0 s.2.1)))) 58) ((uM 60 k (-1) (uM 65 k 0 (uM 63 k 1 (uM 1 76 0 s.2.1)))) 59) ((uM 60 k (-1) (uM 65 k 0 (uM 63 k 1 (uM 1 76 0 s.2.1)))) 60) ((uM 60 k (-1) (uM 65 k 0 (uM 63 k 1 (uM 1 76 0 s.2.1)))) 61) ((uM 60 k (-1) (uM 65 k 0 (uM 63 k 1 (uM 1 76 0 s.2.1)))) 62) ((uM 60 k (-1) (uM 65 k 0 (uM 63 k 1 (uM 1 76 0 s.2.1)))) 63) ((uM 60 k (-1) (uM 65 k 0 (uM 63 k 1 (uM 1 76 0 s.2.1)))) 64) ((uM 60 k (-1) (uM 65 k 0 (uM 63 k 1 (uM 1 76 0 s.2.1)))) 65) ((uM 60 k (-1) (uM 65 k 0 (uM 63 k 1 (uM 1 76 0 s.2.1)))) 76) k := by
          obtain ⟨y1, y2, y3, y4, y5, y6, y7, y8, y9, y10, y11, y12, y13, y14, y15, y16, y17, y18⟩ := hP
          unfold nPar
          simp (disch := decide) only [fI_k, fX_k, fP_k, fI_uP, fI_uX, fX_uP, fX_uI, fP_uX, fP_uI, fI_ne, uM_ne, uM1_ne, uM_kk]
          exact ⟨y1, y2, y3, y4, y5, y6, y7, y8, y9, y10, y11, y12, y13, y14, by trivial, y16, ⟨by trivial, Or.inr rfl⟩, ⟨by trivial, 0, by omega, by omega, rfl⟩⟩
        obtain ⟨c', m', t1, t2, t3, t4, t5, ⟨t6, t7⟩, t9, t8⟩ := turnJ (xs := xs) (nx := nx) (k := k) (c := uI 26 k 16 1 s.1) (m := (uM 60 k (-1) (uM 65 k 0 (uM 63 k 1 (uM 1 76 0 s.2.1))))) (nJ_76 (x := 0) hJ) (by omega) hk (fun t t1 => by rw [fI_ne t1]) (fun t t1 => rfl) (fun t t1 => rfl) rfl (fun t h => by rw [uM_ne (by omega), uM_ne (by omega), uM_ne (by omega)])
          (fun h3 => nJ_par (k := k) (nJ_76 (x := 0) hJ) (fun t t1 t2 => by rw [fI_ne t1, fI_uP, fI_ne t1]) (fun t t1 => rfl) (fun t t1 => fP_ne t1) rfl (fun t x j h => by rw [fI_n h, fI_uP, fI_n h]) (fun t x j h => rfl) (fun t x j h => fP_n h) (fun t h => by rw [uM_ne (by omega), uM_ne (by omega), uM_ne (by omega)]) (fun t x h => by rw [uM_k h, uM_k h, uM_k h]) hk hP'
            (by simp (disch := decide) only [fI_ne, fI_uP, fI_uX, uM_ne]; exact hM) (Or.inr ⟨by rw [uM_ne (by decide)]; exact h4, by rw [uM_ne (by decide)]; exact h7⟩) (Or.inr ⟨h3, by rw [uM_ne (by decide)]; exact h4⟩))
          (fun d hd => parMv (nJ_76 (x := 0) hJ) (by omega) hk (by rw [uM_ne (by decide)]; exact h4) (by rw [uM_ne (by decide)]; exact h7) hd (fun t t1 => by rw [fI_ne t1, fI_uP, fI_ne t1]) (fun t t1 => rfl) (fun t t1 => fP_ne t1) rfl (fun x j h => by rw [fI_n h, fI_uP, fI_n h]) (fun x j h => rfl) (fun x j h => fP_n h) (fun t h => by rw [uM_ne (by omega), uM_ne (by omega), uM_ne (by omega)]) (fun t x h => by rw [uM_k h, uM_k h, uM_k h]) hP')
        obtain ⟨D, -, eD, d1, d2⟩ := tgt64 (xs := xs) (nx := nx) (k := k) t1 (by rw [t2]; exact hk)
        refine nDoneU (hP := ⟨⟨k, hk, rfl, h0, h4, h5, h7, h8, by rw [t8 63 (by decide) (by decide)]; simp (disch := decide) only [uM_ne, uM_kk], by rw [t8 65 (by decide) (by decide)]; simp (disch := decide) only [uM_ne, uM_kk], t6, t7, by rw [eD]; rfl⟩, rfl, by rw [t9]; simp (disch := decide) only [uM_ne, uM1_ne]⟩) (v := iN D) t1 ?_ (fun z => ?_) ?_
        · simp only [d_132_0, h1 s rfl, bR, ntg_self, nn_some, e16, h0, if_true, o1 s rfl, bI, n10, if_false, d_132_25, c84_1, bV, t3, d1]
        · simp only [d_230_0, h2 (c', s.2.1, z) rfl, bI, n10, if_false, hin, en, h0, o2 (c', s.2.1, z) rfl, if_true, d_230_37, r172_0, d_203_0, true_and, or_true, t4, bV, d2 c' m' z rfl rfl rfl rfl]
        · rw [t5]
          simp (disch := decide) only [uM_ne, uM_self]
      · exact nFail (hF := ⟨k, hk, rfl, Or.inr hbd⟩) (E := 2) (e := 2) (v := 0) hJ (by simp only [d_132_0, h1 s rfl, bR, ntg_self, nn_some, e16, h0, if_true, o1 s rfl, bI, d_132_24, d_132_25, c84_0, bV, hE]) (fun z => by simp only [d_230_0, h2 (s.1, s.2.1, z) rfl, bI, n10, if_false, hin, en, h0, o2 (s.1, s.2.1, z) rfl, if_true, d_230_32, d_230_37, r172_2]) rfl n20
    · exact nFail (hF := ⟨k, hk, rfl, Or.inl h0⟩) (E := 2) (e := 2) (v := 0) hJ (by simp only [d_132_0, h1 s rfl, bR, ntg_self, nn_some, e16, h0, if_false, d_132_24, d_132_25, c84_0, bV, hE]) (fun z => by simp only [d_230_0, h2 (s.1, s.2.1, z) rfl, bI, n10, if_false, hin, en, h0, if_true, d_230_32, d_230_37, r172_2]) rfl n20
end OPT
end KAP
