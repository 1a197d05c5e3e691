/-! ===== the moves one by one ===== -/
section KAP
variable {κ : kP}
section OPR
variable {xs : Nat → Int32} {nx : Nat}
theorem cnt_upd {p p' : Nat → Bool} {k : Nat} (h : ∀ j, j ≠ k → p' j = p j) : ∀ P, k < P → ((List.range P).filter p').length + (if p k then 1 else 0) = ((List.range P).filter p).length + (if p' k then 1 else 0) := by
  intro P
  induction P with
  | zero => intro z; exact absurd z (Nat.not_lt_zero k)
  | succ P ih =>
    intro hk
    rw [List.range_succ, List.filter_append, List.filter_append, List.length_append, List.length_append]
    by_cases e : k = P
    · subst e
      have : (List.range k).filter p' = (List.range k).filter p := by
        apply List.filter_congr
        intro j hj
        rw [List.mem_range] at hj
        exact h j (by omega)
      rw [this]
      cases h1 : p k <;> cases h2 : p' k <;> simp [h1, h2]
    · have h1 := ih (by omega)
      have h2 : [P].filter p' = [P].filter p := by
        apply List.filter_congr
        intro j hj
        rw [List.mem_singleton] at hj
        exact h j (by omega)
      rw [h2]
      omega
theorem cnt_le {p : Nat → Bool} {P : Nat} : ((List.range P).filter p).length ≤ P := by
  have := List.length_filter_le p (List.range P)
  rw [List.length_range] at this
  exact this
/-- which locker a parcel is in -/
theorem nJ_5 {i : Nat} {c : nC} {m : nM} (hJ : nJ κ i c m) {k : Nat} (hk : k < fN c 26) : (m 66 k = 5 ∧ ∃ l j, l < fN c 28 ∧ 1 ≤ j ∧ j < 4 ∧ m 67 k = iN l ∧ fP c 9 k 5 = some l ∧ m 71 k = iN j ∧ fI c 9 k 6 = iN j) ∨ (m 66 k ≠ 5 ∧ fP c 9 k 5 = none) := by
  obtain ⟨-, -, -, -, y⟩ := hJ.2.2.2.2.2.2.2.1 k hk
  rcases y with ⟨z, d, hd, z1, -, z2, z3, -⟩ | ⟨z, d, hd, z1, -, z2, z3, -⟩ | ⟨z, d, hd, z1, -, z2, z3, -⟩ | ⟨z, d, hd, z1, -, z2, z3, -⟩ | ⟨z, d, hd, z1, -, z2, z3, -⟩ | ⟨z, d, hd, z1, -, z2, z3, -, y1, ⟨n, n1, n2, n3⟩, -⟩ | ⟨z, d, hd, z1, -, z2, z3, -⟩ | ⟨z, -, -, z2, z3, -⟩ | ⟨z, -, -, z2, z3, -⟩
  · exact Or.inr ⟨by rw [z]; decide, z3⟩
  · exact Or.inr ⟨by rw [z]; decide, z3⟩
  · exact Or.inr ⟨by rw [z]; decide, z3⟩
  · exact Or.inr ⟨by rw [z]; decide, z3⟩
  · exact Or.inr ⟨by rw [z]; decide, z3⟩
  · exact Or.inl ⟨z, d, n, hd, n1, by omega, z1, z3, by rw [y1, n3], n3⟩
  · exact Or.inr ⟨by rw [z]; decide, z3⟩
  · exact Or.inr ⟨by rw [z]; decide, z3⟩
  · exact Or.inr ⟨by rw [z]; decide, z3⟩
/-- the lockers, if the parcel comes in none -/
theorem gLoc_mv {i k : Nat} {c c' : nC} {m m' : nM} (hJ : nJ κ i c m) (hk : k < fN c 26) (h7 : fI c' 7 = fI (cOut k c) 7) (w5 : m' 66 k ≠ 5) (e66 : ∀ j, j ≠ k → m' 66 j = m 66 j) (e67 : ∀ j, j ≠ k → m' 67 j = m 67 j) (e71 : ∀ j, j ≠ k → m' 71 j = m 71 j) :
    gLoc (fX c 28) (fI c' 7) (fN c 26) (fN c 28) (m' 66) (m' 67) (m' 71) (m 88) (m 89) := by
  have hL := hJ.2.2.2.2.2.2.2.2.2.2.2.2.1
  have hP := hJ.1.2.2.1.1
  intro l hl
  refine ⟨(hL l hl).1, fun j j1 j4 => ?_⟩
  obtain ⟨x1, x2, x3⟩ := (hL l hl).2 j j1 j4
  refine ⟨x1, ?_⟩
  have hc := cnt_upd (p := fun x => decide (m 66 x = 5 ∧ m 67 x = iN l ∧ m 71 x = iN j)) (p' := fun x => decide (m' 66 x = 5 ∧ m' 67 x = iN l ∧ m' 71 x = iN j)) (k := k) (fun x hx => by simp only [e66 x hx, e67 x hx, e71 x hx]) (fN c 26) hk
  have hle := cnt_le (p := fun x => decide (m' 66 x = 5 ∧ m' 67 x = iN l ∧ m' 71 x = iN j)) (P := fN c 26)
  have hle0 := cnt_le (p := fun x => decide (m 66 x = 5 ∧ m 67 x = iN l ∧ m 71 x = iN j)) (P := fN c 26)
  rw [if_neg (show ¬ (decide (m' 66 k = 5 ∧ m' 67 k = iN l ∧ m' 71 k = iN j) = true) from fun z => w5 (of_decide_eq_true z).1)] at hc
  rw [h7, cOut_7]
  obtain ⟨M, -, x4, x5⟩ := x1
  obtain ⟨F, -, x6, x7⟩ := x2
  rw [x5, x7] at x3
  rw [show iN F + iN _ = iN (F + _) from i32_add, iN_inj (by omega) (by omega)] at x3
  have hcond : (fP c 9 k 5 = some l ∧ j = (fI c 9 k 6).toNatClampNeg) ↔ (m 66 k = 5 ∧ m 67 k = iN l ∧ m 71 k = iN j) := by
    rcases nJ_5 hJ hk with ⟨z, l', j', y1, y2, y3, y4, y5, y6, y7⟩ | ⟨z, y⟩
    · have hl5 := hJ.1.2.2.2.2.1.1
      rw [y5, y7, z, y4, y6, i32_nat (by omega), iN_inj (by omega) (by omega), iN_inj (by omega) (by omega), Option.some.injEq]
      exact ⟨fun q => ⟨rfl, q.1, q.2.symm⟩, fun q => ⟨q.2.1, q.2.2.symm⟩⟩
    · rw [y]
      exact ⟨fun q => (by cases q.1), fun q => absurd q.1 z⟩
  simp only [hcond]
  by_cases e : m 66 k = 5 ∧ m 67 k = iN l ∧ m 71 k = iN j
  · rw [if_pos e]
    rw [if_pos (decide_eq_true e)] at hc
    rw [x7, iN_add1, x5, show iN (F + 1) + iN _ = iN (F + 1 + _) from i32_add]
    exact ⟨⟨F + 1, Nat.zero_le _, by omega, rfl⟩, by congr 1; omega⟩
  · rw [if_neg e]
    rw [if_neg (fun z => e (of_decide_eq_true z))] at hc
    rw [x7, x5, show iN F + iN _ = iN (F + _) from i32_add]
    exact ⟨⟨F, Nat.zero_le _, x6, rfl⟩, by congr 1; omega⟩
section MM
variable {k : Nat} {w a : Int32} {m : nM}
theorem mMv_ne {t : Nat} (h : t ≠ 1 ∧ (t < 66 ∨ 68 < t)) : mMv k w a m t = m t := by
  unfold mMv
  rw [uM_ne h.1, uM_ne (by omega), uM_ne (by omega), uM_ne (by omega)]
theorem mMv_1 {j : Nat} (h : j ≠ 1) : mMv k w a m 1 j = m 1 j := by
  unfold mMv
  rw [uM1_ne h, uM_ne (by decide), uM_ne (by decide), uM_ne (by decide)]
theorem mMv_11 : mMv k w a m 1 1 = m 1 1 + 1 := by
  unfold mMv
  rw [uM_at, if_pos rfl]
theorem mMv_k {t j : Nat} (h1 : t ≠ 1) (h : j ≠ k) : mMv k w a m t j = m t j := by
  unfold mMv
  rw [uM_ne h1]
  by_cases e : t = 68
  · subst e; rw [uM_at, if_neg h, uM_ne (by decide), uM_ne (by decide)]
  · rw [uM_ne e]
    by_cases e : t = 67
    · subst e; rw [uM_at, if_neg h, uM_ne (by decide)]
    · rw [uM_ne e]
      by_cases e : t = 66
      · subst e; rw [uM_at, if_neg h]
      · rw [uM_ne e]
theorem mMv_66 : mMv k w a m 66 k = w := by
  unfold mMv
  rw [uM_ne (by decide), uM_ne (by decide), uM_ne (by decide), uM_at, if_pos rfl]
theorem mMv_67 : mMv k w a m 67 k = a := by
  unfold mMv
  rw [uM_ne (by decide), uM_ne (by decide), uM_at, if_pos rfl]
theorem mMv_68 : mMv k w a m 68 k = m 1 1 := by
  unfold mMv
  rw [uM_ne (by decide), uM_at, if_pos rfl]
theorem uM_k {t t' k j : Nat} {x : Int32} {m : nM} (h : j ≠ k) : uM t k x m t' j = m t' j := by
  by_cases e : t' = t
  · subst e; rw [uM_at, if_neg h]
  · rw [uM_ne e]
theorem uM_kk {t k : Nat} {x : Int32} {m : nM} : uM t k x m t k = x := by rw [uM_at, if_pos rfl]
end MM
theorem nJ_mv1 {κ' : kP} {i k : Nat} {w a : Int32} {D : Option Nat} {q : Option (Nat × Nat)} {c c' : nC} {m m' : nM} (hJ : nJ κ i c m) (hi : i % 100000 < 90000) (hk : k < fN c 26) (h7 : m 66 k ≠ 7) (hr : ∀ v, v < fN c 27 → i / 100000 ≠ 2 + v → k ∉ fL c 11 v) (w4 : w ≠ 4) (w5 : w ≠ 5)
    (c2 : c'.2 = (cMv k w a D q (m 1 0) c).2) (cI : ∀ t k' j, (t ≠ 9 ∨ k' ≠ k ∨ j ≠ 8) → fI c' t k' j = fI (cMv k w a D q (m 1 0) c) t k' j)
    (hq : (w = 0 ∧ ∃ d, d < 5 ∧ a = iN d ∧ q = some (3, d)) ∨ (w = 1 ∧ ∃ l, l < fN c 23 ∧ a = iN l ∧ q = some (5, l)) ∨ (w = 2 ∧ ∃ l, l < fN c 23 ∧ a = iN l ∧ q = some (6, l)) ∨ (w ≠ 0 ∧ w ≠ 1 ∧ w ≠ 2 ∧ q = none))
    (mt : ∀ t, t ≠ 1 → (t < 66 ∨ t = 76 ∨ 77 < t) → m' t = m t) (m1 : ∀ j, j ≠ 1 → m' 1 j = m 1 j) (m11 : m' 1 1 = m 1 1 + 1) (mk : ∀ t k', t ≠ 1 → k' ≠ k → m' t k' = m t k')
    (m66 : m' 66 k = w) (m67 : m' 67 k = a) (m68 : m' 68 k = m 1 1) (m77 : m' 77 k = if w = 7 then 0 else m 77 k) (hfr : m 62 k = 1 → w = 0 ∨ w = 8) (h3 : w = 3 → m 60 k = -1 ∧ a = m 45 (if m 63 k = 0 then m 52 k else m 51 k).toNatClampNeg)
    (hS : nSty (fI c' 9 k) (fP c' 9 k) (fQ c' k) (fX c 23) (fX c 28) (fI c 23) (fN c 23) (fN c 27) (fN c 28) (i / 100000) (m 1 0) (m' 66) (m' 67) (m' 69) (m' 70) (m' 71) (m' 72) (m' 73) (m' 74) (m' 75) k)
    (h20 : ∀ l, q = some (5, l) → (fL c 5 l).length < 20 := by intro l z; cases z) (hκ : κ' = (if w = 7 then κ.1 + 1 else κ.1, κ.2) := by first | (rw [if_neg (by decide)]; done) | (rw [if_neg (by decide)]; rfl) | (rw [if_pos rfl]; done)) : nJ κ' (i + 1) c' m' := by
  have e1 : fX c' = fX c := (congrArg (·.1) c2).trans cMv_X
  have e2 : fP c' = fP (cMv k w a D q (m 1 0) c) := congrArg (·.2.1) c2
  have e3 : fQ c' = fQ (cMv k w a D q (m 1 0) c) := congrArg (·.2.2.1) c2
  have e4 : fL c' = fL (cMv k w a D q (m 1 0) c) := congrArg (·.2.2.2.1) c2
  have e5 : fN c' = fN c := (congrArg (·.2.2.2.2) c2).trans cMv_N
  have m78 : m' 78 = m 78 := mt 78 (by decide) (by decide)
  have hV := hJ.2.2.2.2.2.2.2.2.2.2.2.1
  have c9 : ∀ k' j, k' ≠ k → fI c' 9 k' j = fI c 9 k' j := fun k' j h => by rw [cI 9 k' j (Or.inr (Or.inl h)), cMv_9n h]
  refine nJ_mv (w := w) (a := a) (q := q) hJ hi hk (fun t h9 h7 => ?_) c9 (fun k' j h => by rw [e2, cMv_Pn h]) (fun k' h => by rw [e3, cMv_Qn h]) e1 e5 (fun t h => by rw [e2, cMv_P h]) (fun t l => by rw [e4, cMv_L]) ?_
    (fun t t1 t2 => mt t t1 (by omega)) m1 m11 mk m66 m67 m68 hS ?_ ⟨fun z => (by rw [m66] at z; rw [m67]; exact h3 z), fun z => absurd (m66.symm.trans z) w4⟩ ?_ ?_ h7 hκ h20
  · funext k' j
    rw [cI t k' j (Or.inl h9), cMv_I h9, cOut_I h7]
  · rcases hq with h | h | ⟨h, l, l1, l2, l3⟩ | h
    · exact Or.inl h
    · exact Or.inr (Or.inl h)
    · refine Or.inr (Or.inr (Or.inl ⟨h, l, l1, l2, l3, ?_⟩))
      rw [cI 9 k 2 (Or.inr (Or.inr (by decide))), cMv_9, if_pos rfl]
    · exact Or.inr (Or.inr (Or.inr h))
  · have hM := hJ.2.2.2.2.2.2.2.2.2.2.1 k hk
    unfold nMon at hM ⊢
    rw [m66, m78, m77]
    obtain ⟨y1, y2, y3, y4, y5, y6, y7, y8⟩ := hM
    refine ⟨y1, ?_, ?_, ?_, y5, fun z => ⟨(y6 z).1, (y6 z).2.1, hfr z⟩, fun _ => y7 (Or.inr h7), y8⟩
    · split
      · exact Or.inl rfl
      · exact y2
    · intro z
      rw [if_neg z]
      exact y3 h7
    · intro z
      rw [if_pos z]
  · rw [m78]
    refine gVan_mv hV hr (fun v hv hp z => absurd (m66.symm.trans z) w4) ?_ (fun j h => mk 66 j (by decide) h) (fun j h => mk 67 j (by decide) h) (fun j h => rfl) (fun j h => c9 j 9 h)
    intro v hv hp z
    obtain ⟨-, -, -, y4, -⟩ := hV.1 v hv
    obtain ⟨-, -, -, -, r5, -⟩ := y4 hp
    exact hr v hv hp (r5 k hk z)
  · refine gLoc_mv hJ hk ?_ (by rw [m66]; exact w5) (fun j h => mk 66 j (by decide) h) (fun j h => mk 67 j (by decide) h) (fun j h => mk 71 j (by decide) h)
    funext b j
    rw [cI 7 b j (Or.inl (by decide)), cMv_I (by decide)]
section PU
variable {i k : Nat} {c : nC} {m : nM}
theorem nJ_d2 (hJ : nJ κ i c m) : nIn (m 1 0) 0 600 ∧ m 1 0 ≤ m 1 0 := ⟨(nJ_ck hJ).2, by rw [Int32.le_iff_toInt_le]; omega⟩
theorem put0r {d : Nat} (hJ : nJ κ i c m) (hi : i % 100000 < 90000) (hk : k < fN c 26) (h7 : m 66 k ≠ 7) (hr : ∀ v, v < fN c 27 → i / 100000 ≠ 2 + v → k ∉ fL c 11 v) (hd : d < 5) : nJ κ (i + 1) (cMv k 0 (iN d) (some d) (some (3, d)) (m 1 0) c) (mMv k 0 (iN d) m) := by
  refine nJ_mv1 hJ hi hk h7 hr (by decide) (by decide) rfl (fun _ _ _ _ => rfl) (Or.inl ⟨rfl, d, hd, rfl, rfl⟩) (fun t t1 t2 => mMv_ne ⟨t1, by omega⟩) (fun j h => mMv_1 h) mMv_11 (fun t j h1 h => mMv_k h1 h) mMv_66 mMv_67 mMv_68 (by rw [mMv_ne (by decide)]; rfl) (fun _ => Or.inl rfl) (fun z => absurd z (by decide)) ?_
  unfold nSty
  simp only [cMv_9, cMv_P3, cMv_P5, cMv_Q, mMv_66, mMv_67]
  exact ⟨by trivial, by trivial, (nJ_d2 hJ).1, (nJ_d2 hJ).2, Or.inl ⟨by trivial, d, hd, by trivial, by trivial, by trivial, by trivial, by trivial, by trivial⟩⟩
theorem put0 {d : Nat} (hJ : nJ κ i c m) (hi : i % 100000 < 90000) (hk : k < fN c 26) (h4 : m 66 k ≠ 4) (h7 : m 66 k ≠ 7) (hd : d < 5) : nJ κ (i + 1) (cMv k 0 (iN d) (some d) (some (3, d)) (m 1 0) c) (mMv k 0 (iN d) m) := put0r hJ hi hk h7 (nJ_nl hJ h4 h7) hd
theorem put1r {l : Nat} (hJ : nJ κ i c m) (hi : i % 100000 < 90000) (hk : k < fN c 26) (h7 : m 66 k ≠ 7) (hr : ∀ v, v < fN c 27 → i / 100000 ≠ 2 + v → k ∉ fL c 11 v) (hl : l < fN c 23) (hf : m 62 k ≠ 1) (h20 : (fL c 5 l).length < 20) : nJ κ (i + 1) (cMv k 1 (iN l) (some (fX c 23 l 1)) (some (5, l)) (m 1 0) c) (mMv k 1 (iN l) m) := by
  refine nJ_mv1 hJ hi hk h7 hr (by decide) (by decide) rfl (fun _ _ _ _ => rfl) (Or.inr (Or.inl ⟨rfl, l, hl, rfl, rfl⟩)) (fun t t1 t2 => mMv_ne ⟨t1, by omega⟩) (fun j h => mMv_1 h) mMv_11 (fun t j h1 h => mMv_k h1 h) mMv_66 mMv_67 mMv_68 (by rw [mMv_ne (by decide)]; rfl) (fun z => absurd z hf) (fun z => absurd z (by decide)) ?_ (h20 := fun l' z => by injection z with z; injection z with _ z; rw [← z]; exact h20)
  unfold nSty
  simp only [cMv_9, cMv_P3, cMv_P5, cMv_Q, mMv_66, mMv_67]
  exact ⟨by trivial, by trivial, (nJ_d2 hJ).1, (nJ_d2 hJ).2, Or.inr (Or.inl ⟨by trivial, l, hl, by trivial, by trivial, by trivial, by trivial, by trivial, by trivial⟩)⟩
theorem put1 {l : Nat} (hJ : nJ κ i c m) (hi : i % 100000 < 90000) (hk : k < fN c 26) (h4 : m 66 k ≠ 4) (h7 : m 66 k ≠ 7) (hl : l < fN c 23) (hf : m 62 k ≠ 1) (h20 : (fL c 5 l).length < 20) : nJ κ (i + 1) (cMv k 1 (iN l) (some (fX c 23 l 1)) (some (5, l)) (m 1 0) c) (mMv k 1 (iN l) m) := put1r hJ hi hk h7 (nJ_nl hJ h4 h7) hl hf h20
theorem put2r {l : Nat} (hJ : nJ κ i c m) (hi : i % 100000 < 90000) (hk : k < fN c 26) (h7 : m 66 k ≠ 7) (hr : ∀ v, v < fN c 27 → i / 100000 ≠ 2 + v → k ∉ fL c 11 v) (hl : l < fN c 23) (hf : m 62 k ≠ 1) : nJ κ (i + 1) (cMv k 2 (iN l) none (some (6, l)) (m 1 0) c) (uM 69 k (m 1 0 + m 37 l) (mMv k 2 (iN l) m)) := by
  refine nJ_mv1 hJ hi hk h7 hr (by decide) (by decide) rfl (fun _ _ _ _ => rfl) (Or.inr (Or.inr (Or.inl ⟨rfl, l, hl, rfl, rfl⟩))) (fun t t1 t2 => by rw [uM_ne (by omega), mMv_ne ⟨t1, by omega⟩]) (fun j h => by rw [uM_ne (by decide), mMv_1 h]) (by rw [uM_ne (by decide), mMv_11]) (fun t j h1 h => by rw [uM_k h, mMv_k h1 h]) (by rw [uM_ne (by decide), mMv_66]) (by rw [uM_ne (by decide), mMv_67]) (by rw [uM_ne (by decide), mMv_68]) (by rw [uM_ne (by decide), mMv_ne (by decide)]; rfl) (fun z => absurd z hf) (fun z => absurd z (by decide)) ?_
  have hla := (hJ.2.2.2.1.1 l hl).2.2.1
  obtain ⟨-, t, -, t2, t3⟩ := nJ_ck hJ
  obtain ⟨e, h, h1, h2, h3⟩ := hla
  unfold nSty
  simp (disch := decide) only [cMv_9, cMv_P3, cMv_P5, cMv_Q, uM_ne, mMv_66, mMv_67, uM_kk]
  refine ⟨by trivial, by trivial, (nJ_d2 hJ).1, (nJ_d2 hJ).2, Or.inr (Or.inr (Or.inl ⟨by trivial, l, hl, by trivial, by trivial, by trivial, by trivial, by trivial, by trivial, by rw [e]; trivial, ?_, fun _ => ?_⟩))⟩
  · rw [t3, h3, show iN t + iN h = iN (t + h) from i32_add, Int32.le_iff_toInt_le, iN_toInt (by omega), iN_toInt (by omega)]
    omega
  rw [t3, h3, show iN t + iN h = iN (t + h) from i32_add]
  exact (iN_lt (by omega) (by omega)).mpr (by omega)
theorem put2 {l : Nat} (hJ : nJ κ i c m) (hi : i % 100000 < 90000) (hk : k < fN c 26) (h4 : m 66 k ≠ 4) (h7 : m 66 k ≠ 7) (hl : l < fN c 23) (hf : m 62 k ≠ 1) : nJ κ (i + 1) (cMv k 2 (iN l) none (some (6, l)) (m 1 0) c) (uM 69 k (m 1 0 + m 37 l) (mMv k 2 (iN l) m)) := put2r hJ hi hk h7 (nJ_nl hJ h4 h7) hl hf
theorem put3r {d : Nat} (hJ : nJ κ i c m) (hi : i % 100000 < 90000) (hk : k < fN c 26) (h7 : m 66 k ≠ 7) (hr : ∀ v, v < fN c 27 → i / 100000 ≠ 2 + v → k ∉ fL c 11 v) (hd : d < 5) (hf : m 62 k ≠ 1) (ht : m 60 k = -1 ∧ iN d = m 45 (if m 63 k = 0 then m 52 k else m 51 k).toNatClampNeg) : nJ κ (i + 1) (cMv k 3 (iN d) (some d) none (m 1 0) c) (mMv k 3 (iN d) m) := by
  refine nJ_mv1 hJ hi hk h7 hr (by decide) (by decide) rfl (fun _ _ _ _ => rfl) (Or.inr (Or.inr (Or.inr ⟨by decide, by decide, by decide, rfl⟩))) (fun t t1 t2 => mMv_ne ⟨t1, by omega⟩) (fun j h => mMv_1 h) mMv_11 (fun t j h1 h => mMv_k h1 h) mMv_66 mMv_67 mMv_68 (by rw [mMv_ne (by decide)]; rfl) (fun z => absurd z hf) (fun _ => ht) ?_
  unfold nSty
  simp only [cMv_9, cMv_P3, cMv_P5, cMv_Q, mMv_66, mMv_67]
  exact ⟨by trivial, by trivial, (nJ_d2 hJ).1, (nJ_d2 hJ).2, Or.inr (Or.inr (Or.inr (Or.inl ⟨by trivial, d, hd, by trivial, by trivial, by trivial, by trivial, by trivial, by trivial⟩)))⟩
theorem put3 {d : Nat} (hJ : nJ κ i c m) (hi : i % 100000 < 90000) (hk : k < fN c 26) (h4 : m 66 k ≠ 4) (h7 : m 66 k ≠ 7) (hd : d < 5) (hf : m 62 k ≠ 1) (ht : m 60 k = -1 ∧ iN d = m 45 (if m 63 k = 0 then m 52 k else m 51 k).toNatClampNeg) : nJ κ (i + 1) (cMv k 3 (iN d) (some d) none (m 1 0) c) (mMv k 3 (iN d) m) := put3r hJ hi hk h7 (nJ_nl hJ h4 h7) hd hf ht
theorem put6r {d : Nat} {b : Int32} (hb : nBo b) (hJ : nJ κ i c m) (hi : i % 100000 < 90000) (hk : k < fN c 26) (h7 : m 66 k ≠ 7) (hr : ∀ v, v < fN c 27 → i / 100000 ≠ 2 + v → k ∉ fL c 11 v) (hd : d < 5) (hf : m 62 k ≠ 1) : nJ κ (i + 1) (uI 9 k 8 b (cMv k 6 (iN d) (some d) none (m 1 0) c)) (uM 73 k b (mMv k 6 (iN d) m)) := by
  refine nJ_mv1 (a := iN d) (D := some d) (q := none) (w := 6) hJ hi hk h7 hr (by decide) (by decide) rfl (fun t k' j h => ?_) (Or.inr (Or.inr (Or.inr ⟨by decide, by decide, by decide, rfl⟩))) (fun t t1 t2 => by rw [uM_ne (by omega), mMv_ne ⟨t1, by omega⟩]) (fun j h => by rw [uM_ne (by decide), mMv_1 h]) (by rw [uM_ne (by decide), mMv_11]) (fun t j h1 h => by rw [uM_k h, mMv_k h1 h]) (by rw [uM_ne (by decide), mMv_66]) (by rw [uM_ne (by decide), mMv_67]) (by rw [uM_ne (by decide), mMv_68]) (by rw [uM_ne (by decide), mMv_ne (by decide)]; rfl) (fun z => absurd z hf) (fun z => absurd z (by decide)) ?_
  · by_cases e : t = 9
    · subst e
      rw [fI_at, if_neg]
      rcases h with h | h | h
      · exact absurd rfl h
      · exact fun z => h z.1
      · exact fun z => h z.2
    · rw [fI_ne e]
  · have e8 : ∀ (j : Nat) (c : nC), fI (uI 9 k 8 b c) 9 k j = if j = 8 then b else fI c 9 k j := fun j c => by
      rw [fI_at]
      simp only [true_and]
    unfold nSty
    simp (disch := decide) only [e8, fP_uI, fQ_uI, cMv_9, cMv_P3, cMv_P5, cMv_Q, uM_ne, mMv_66, mMv_67, uM_kk]
    exact ⟨by trivial, by trivial, (nJ_d2 hJ).1, (nJ_d2 hJ).2, Or.inr (Or.inr (Or.inr (Or.inr (Or.inr (Or.inr (Or.inl ⟨by trivial, d, hd, by trivial, by trivial, by trivial, by trivial, by trivial, by trivial, by trivial, hb⟩))))))⟩
theorem put6 {d : Nat} {b : Int32} (hb : nBo b) (hJ : nJ κ i c m) (hi : i % 100000 < 90000) (hk : k < fN c 26) (h4 : m 66 k ≠ 4) (h7 : m 66 k ≠ 7) (hd : d < 5) (hf : m 62 k ≠ 1) : nJ κ (i + 1) (uI 9 k 8 b (cMv k 6 (iN d) (some d) none (m 1 0) c)) (uM 73 k b (mMv k 6 (iN d) m)) := put6r hb hJ hi hk h7 (nJ_nl hJ h4 h7) hd hf
theorem put7r (hJ : nJ κ i c m) (hi : i % 100000 < 90000) (hk : k < fN c 26) (h7 : m 66 k ≠ 7) (hr : ∀ v, v < fN c 27 → i / 100000 ≠ 2 + v → k ∉ fL c 11 v) (hf : m 62 k ≠ 1) : nJ (κ.1 + 1, κ.2) (i + 1) (cMv k 7 (-1) none none (m 1 0) c) (uM 77 k 0 (uM 74 k (m 1 0) (mMv k 7 (-1) m))) := by
  refine nJ_mv1 hJ hi hk h7 hr (by decide) (by decide) rfl (fun _ _ _ _ => rfl) (Or.inr (Or.inr (Or.inr ⟨by decide, by decide, by decide, rfl⟩))) (fun t t1 t2 => by rw [uM_ne (by omega), uM_ne (by omega), mMv_ne ⟨t1, by omega⟩]) (fun j h => by rw [uM_ne (by decide), uM_ne (by decide), mMv_1 h]) (by rw [uM_ne (by decide), uM_ne (by decide), mMv_11]) (fun t j h1 h => by rw [uM_k h, uM_k h, mMv_k h1 h]) (by rw [uM_ne (by decide), uM_ne (by decide), mMv_66]) (by rw [uM_ne (by decide), uM_ne (by decide), mMv_67]) (by rw [uM_ne (by decide), uM_ne (by decide), mMv_68]) (by rw [uM_kk]; rfl) (fun z => absurd z hf) (fun z => absurd z (by decide)) ?_
  unfold nSty
  simp (disch := decide) only [cMv_9, cMv_P3, cMv_P5, cMv_Q, uM_ne, mMv_66, mMv_67, uM_kk]
  exact ⟨by trivial, by trivial, (nJ_d2 hJ).1, (nJ_d2 hJ).2, Or.inr (Or.inr (Or.inr (Or.inr (Or.inr (Or.inr (Or.inr (Or.inl ⟨by trivial, by trivial, by trivial, by trivial, by trivial, by trivial, by trivial, by trivial⟩)))))))⟩
theorem put7 (hJ : nJ κ i c m) (hi : i % 100000 < 90000) (hk : k < fN c 26) (h4 : m 66 k ≠ 4) (h7 : m 66 k ≠ 7) (hf : m 62 k ≠ 1) : nJ (κ.1 + 1, κ.2) (i + 1) (cMv k 7 (-1) none none (m 1 0) c) (uM 77 k 0 (uM 74 k (m 1 0) (mMv k 7 (-1) m))) := put7r hJ hi hk h7 (nJ_nl hJ h4 h7) hf
theorem put8r (hJ : nJ κ i c m) (hi : i % 100000 < 90000) (hk : k < fN c 26) (h7 : m 66 k ≠ 7) (hr : ∀ v, v < fN c 27 → i / 100000 ≠ 2 + v → k ∉ fL c 11 v) : nJ κ (i + 1) (cMv k 8 (-1) none none (m 1 0) c) (uM 75 k (m 1 0) (mMv k 8 (-1) m)) := by
  refine nJ_mv1 hJ hi hk h7 hr (by decide) (by decide) rfl (fun _ _ _ _ => rfl) (Or.inr (Or.inr (Or.inr ⟨by decide, by decide, by decide, rfl⟩))) (fun t t1 t2 => by rw [uM_ne (by omega), mMv_ne ⟨t1, by omega⟩]) (fun j h => by rw [uM_ne (by decide), mMv_1 h]) (by rw [uM_ne (by decide), mMv_11]) (fun t j h1 h => by rw [uM_k h, mMv_k h1 h]) (by rw [uM_ne (by decide), mMv_66]) (by rw [uM_ne (by decide), mMv_67]) (by rw [uM_ne (by decide), mMv_68]) (by rw [uM_ne (by decide), mMv_ne (by decide)]; rfl) (fun z => Or.inr rfl) (fun z => absurd z (by decide)) ?_
  unfold nSty
  simp (disch := decide) only [cMv_9, cMv_P3, cMv_P5, cMv_Q, uM_ne, mMv_66, mMv_67, uM_kk]
  exact ⟨by trivial, by trivial, (nJ_d2 hJ).1, (nJ_d2 hJ).2, Or.inr (Or.inr (Or.inr (Or.inr (Or.inr (Or.inr (Or.inr (Or.inr ⟨by trivial, by trivial, by trivial, by trivial, by trivial, by trivial, by trivial, by trivial⟩)))))))⟩
theorem put8 (hJ : nJ κ i c m) (hi : i % 100000 < 90000) (hk : k < fN c 26) (h4 : m 66 k ≠ 4) (h7 : m 66 k ≠ 7) : nJ κ (i + 1) (cMv k 8 (-1) none none (m 1 0) c) (uM 75 k (m 1 0) (mMv k 8 (-1) m)) := put8r hJ hi hk h7 (nJ_nl hJ h4 h7) 
end PU
/-- the class's move runs -/
theorem mvR {i k : Nat} {c : nC} {m : nM} (hJ : nJ κ i c m) (hk : k < fN c 26) {w a ck : Int32} {D : Option Nat} {q : Option (Nat × Nat)} {z : nM × Nat × (Nat → Int64)}
    (hn : q = none ∨ (∃ d, d < 5 ∧ q = some (3, d)) ∨ (∃ l, l < fN c 23 ∧ (q = some (5, l) ∨ q = some (6, l)))) : R1 xs nx 57 0 [some (vR 26 (some k)), some (vI w), some (vI a), some (vR 21 D), some (vL q), some (vI ck), none, none] [] (c, z) = some (.inl none, (cMv k w a D q ck c, z)) := by
  refine mv57 (nJ_line hJ hk) (nJ_lk hJ hk) ?_
  intro p hp
  obtain ⟨g1, g2, g3⟩ := hJ.2.2.2.2.2.2.2.2.2.1
  have h26 := hJ.1.2.2.1.1
  have hl : ∀ t l, (fL c t l).length ≤ fN c 26 → (fL (cOut k c) t l).length < 500 := by
    intro t l h
    rw [cOut_L]
    split
    · have := List.length_erase_le (l := fL c t l) (a := k); omega
    · omega
  rcases hn with h | ⟨d, hd, h⟩ | ⟨l, hl', h | h⟩
  · rw [h] at hp; cases hp
  · rw [h] at hp; rw [← Option.some.inj hp]; exact ⟨rfl, hl 3 d (nLin_le (g1 d hd))⟩
  · rw [h] at hp; rw [← Option.some.inj hp]; exact ⟨rfl, hl 5 l (nLin_le (g2 l hl'))⟩
  · rw [h] at hp; rw [← Option.some.inj hp]; exact ⟨rfl, hl 6 l (nLin_le (g3 l hl').1)⟩
end OPR
end KAP
