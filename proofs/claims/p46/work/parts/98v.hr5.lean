/-! ===== an hour: all sortings ===== -/
section KAP
variable {κ : kP}
section OQN
variable {xs : Nat → Int32} {nx : Nat}
/-- what a step of an hour leaves, but for the hired hands -/
def fs (c : nC) (m : nM) (c' : nC) (m' : nM) : Prop :=
  (∀ t, t ≠ 25 → fN c' t = fN c t) ∧ (∀ d, fI c' 21 d 5 = fI c 21 d 5) ∧ (∀ t, t ≠ 25 → fX c' t = fX c t) ∧ m' 1 0 = m 1 0 ∧ m' 1 75 = m 1 75 ∧ m' 1 76 = m 1 76 ∧
  ∀ k, m' 66 k = 2 → (m 66 k = 2 ∧ m' 67 k = m 67 k ∧ m' 69 k = m 69 k) ∨ m 1 0 < m' 69 k
theorem fs_refl {c : nC} {m : nM} : fs c m c m := ⟨fun _ _ => rfl, fun _ => rfl, fun _ _ => rfl, rfl, rfl, rfl, fun _ h => Or.inl ⟨h, rfl, rfl⟩⟩
theorem fs_fr {c c' : nC} {m m' : nM} (h : fr c m c' m') : fs c m c' m' := ⟨h.1, h.2.1, h.2.2.1, h.2.2.2.1, h.2.2.2.2.1, h.2.2.2.2.2.1, h.2.2.2.2.2.2.2⟩
theorem fs_trans {c c1 c2 : nC} {m m1 m2 : nM} (h : fs c m c1 m1) (g : fs c1 m1 c2 m2) : fs c m c2 m2 := by
  obtain ⟨h1, h2, h3, h4, h5, h6, h8⟩ := h
  obtain ⟨g1, g2, g3, g4, g5, g6, g8⟩ := g
  refine ⟨fun t ht => (g1 t ht).trans (h1 t ht), fun d => (g2 d).trans (h2 d), fun t ht => (g3 t ht).trans (h3 t ht), g4.trans h4, g5.trans h5, g6.trans h6, fun k hk => ?_⟩
  rcases g8 k hk with ⟨a1, a2, a3⟩ | a
  · rcases h8 k a1 with ⟨b1, b2, b3⟩ | b
    · exact Or.inl ⟨b1, a2.trans b2, a3.trans b3⟩
    · exact Or.inr (by rw [a3]; exact b)
  · exact Or.inr (by rw [← h4]; exact a)
theorem fs_31 {c : nC} {m : nM} {j : Nat} {x : Int32} : fs c m c (uM 31 j x m) := by
  have e : ∀ t, t ≠ 31 → uM 31 j x m t = m t := fun t h => uM_ne h
  refine ⟨fun _ _ => rfl, fun _ => rfl, fun _ _ => rfl, by rw [e 1 (by decide)], by rw [e 1 (by decide)], by rw [e 1 (by decide)], fun k hk => ?_⟩
  rw [e 66 (by decide)] at hk
  rw [e 67 (by decide), e 69 (by decide)]
  exact Or.inl ⟨hk, rfl, rfl⟩
theorem fs_rows {c : nC} {m m' : nM} (e : ∀ t, t ≠ 95 → m' t = m t) : fs c m c m' := by
  refine ⟨fun _ _ => rfl, fun _ => rfl, fun _ _ => rfl, by rw [e 1 (by decide)], by rw [e 1 (by decide)], by rw [e 1 (by decide)], fun k hk => ?_⟩
  rw [e 66 (by decide)] at hk
  rw [e 67 (by decide), e 69 (by decide)]
  exact Or.inl ⟨hk, rfl, rfl⟩
theorem nJ_31 {i d : Nat} {c : nC} {m : nM} {x : Int32} (h : nJ κ i c m) (hp : i / 100000 ≠ 0) : nJ κ i c (uM 31 d x m) := by
  unfold nJ at h ⊢
  simp (disch := decide) only [uM_ne]
  refine ⟨h.1, h.2.1, fun d' hd' => ?_, h.2.2.2⟩
  obtain ⟨y1, y2, ⟨y3, -⟩, y5⟩ := h.2.2.1 d' hd'
  exact ⟨y1, y2, ⟨y3, fun z => absurd z hp⟩, y5⟩
def hRel (f : Int32) (t : Nat) : Int32 := if iN t < f then f - iN t else 0
/-- the parcels of a sorting, in their order -/
theorem sortL {d h C : Nat} (hd : d < 5) (hh : h < 1000) (hC : C < 1000) : ∀ (Q : List Nat) (j i : Nat) (c : nC) (m : nM) (l5 l6 : Option nV), nJ κ i c m → i % 100000 + Q.length < 90000 → m 1 0 = iN h → (fL c 20 0).drop j = Q → (fL c 20 0).length = j + Q.length → (fL c 20 0).length ≤ 40 → j ≤ C →
    (∀ x, x < fN c 26 → (cM m 0 (iN d) x = true ↔ x ∈ Q)) → (∀ x, x ∈ Q → x < fN c 26) → Q.Nodup → Q.Pairwise (fun j x => aM m j x = true ∧ aM m x j = false) →
    ∃ (c' : nC) (m' : nM) (n' : Nat), n' ≤ Q.length ∧ nJ κ (i + n') c' m' ∧ fr c m c' m' ∧
      (∃ a6 : Int32, ∀ z, R1 xs nx 114 43 [some (vR 0 (some 0)), some (vR 12 (some 0)), some (vI (5 : Int32)), some (vI (iN d)), some (vR 21 (some d)), some (vI (iN C)), some (vI (iN j))] [] (c, z) = R1 xs nx 114 86 [some (vR 0 (some 0)), some (vR 12 (some 0)), some (vI (5 : Int32)), some (vI (iN d)), some (vR 21 (some d)), some (vI (iN C)), some (vI a6)] [] (c', z)) ∧
      ∀ c9 z, bI (R1 xs nx 205 0 [some (vR 1 (some 0)), some (vI (0 : Int32)), some (vI (iN d)), none, none, none, none] [] (c9, m, z)) (fun x2 s1 => R1 xs nx 210 92 [some (vR 1 (some 0)), some (vI (iN d)), some (vI (iN (C - j))), some (vI ((iN h - iN h / 24 * 24) / 12)), some (vI x2), l5, l6] [] s1) hE = some (.inl none, (c9, m', z)) := by
  intro Q
  induction Q with
  | nil =>
    intro j i c m l5 l6 hJ hi ck hQ hlen h40 hjC hm hN nd hp
    have h26 := hJ.1.2.2.1
    refine ⟨c, m, 0, Nat.le_refl _, hJ, fr_refl, ⟨iN j, fun z => ?_⟩, fun c9 z => ?_⟩
    · have hn : ¬ iN j < iN (fL c 20 0).length := by
        rw [iN_lt (by omega) (by omega)]
        rw [hlen, List.length_nil]
        omega
      rw [d_114_43]
      dsimp only
      rw [if_neg hn]
    · have hs := sel_nil (N := fN c 26) (w := 0) (a := iN d) (m := m) (fun x hx z => by cases (hm x hx).mp z)
      rw [r205 h26.2.1 h26.1, hs, bI_some, show oI none = (-1 : Int32) from rfl, d_210_92, if_pos rfl]
  | cons e Q ih =>
    intro j i c m l5 l6 hJ hi ck hQ hlen h40 hjC hm hN nd hp
    have h26 := hJ.1.2.2.1
    rw [List.length_cons] at hlen hi
    have he := hN e (List.mem_cons_self ..)
    have hs := sel_exL (N := fN c 26) (w := 0) (a := iN d) (m := m) hm hN hp
    have hlt : iN j < iN (fL c 20 0).length := (iN_lt (by omega) (by omega)).mpr (by omega)
    have hg : (fL c 20 0)[j]? = some e := by
      have : ((fL c 20 0).drop j)[0]? = some e := by rw [hQ]; rfl
      rw [List.getElem?_drop] at this
      exact this
    have hE' := of_decide_eq_true ((hm e he).mpr (List.mem_cons_self ..))
    by_cases hj : j = C
    · have hn : ¬ iN j < iN C := by rw [iN_lt (by omega) (by omega)]; omega
      refine ⟨c, m, 0, Nat.zero_le _, hJ, fr_refl, ⟨iN j, fun z => ?_⟩, fun c9 z => ?_⟩
      · rw [d_114_43]
        dsimp only
        rw [if_pos hlt, if_neg hn]
      · rw [r205 h26.2.1 h26.1, hs, bI_some, show oI (some e) = iN e from rfl, d_210_92, if_neg (iN_ne1 (by have := h26.1; omega)), show C - j = 0 by omega, if_neg (by decide)]
    · have hlC : iN j < iN C := (iN_lt (by omega) (by omega)).mpr (by omega)
      obtain ⟨c1, m1, t1, t2, t3, t4, t5, t6, t7, t8⟩ := sortJ (xs := xs) (nx := nx) hJ (by omega) he hE'.1 hd ck hh
      obtain ⟨x5, x6, t8⟩ := t8 (C - (j + 1)) l5 l6 (by omega)
      rw [List.nodup_cons] at nd
      have hN26 : fN c1 26 = fN c 26 := t2.1 26 (by decide)
      obtain ⟨c', m', n', u1, u2, u3, ⟨a6, u4⟩, u5⟩ := ih (j + 1) (i + 1) c1 m1 (some (vI x5)) (some (vI x6)) t1 (by omega) (by rw [t2.2.2.2.1]; exact ck) (by rw [t3, ← List.drop_drop, hQ]; rfl) (by rw [t3]; omega) (by rw [t3]; exact h40) (by omega)
        (fun x hx => by
          rw [hN26] at hx
          unfold cM
          by_cases z : x = e
          · subst z
            rw [t5]
            exact ⟨fun w => absurd (of_decide_eq_true w).2.2 n10, fun w => absurd w nd.1⟩
          · rw [t6 66 x z (by decide) (by decide) (by decide) (by decide), t6 67 x z (by decide) (by decide) (by decide) (by decide), t6 95 x z (by decide) (by decide) (by decide) (by decide)]
            have := hm x hx
            unfold cM at this
            rw [this, List.mem_cons]
            exact ⟨fun w => w.resolve_left z, Or.inr⟩)
        (fun x hx => by rw [hN26]; exact hN x (List.mem_cons_of_mem _ hx)) nd.2
        (by
          refine List.Pairwise.imp_of_mem ?_ (List.pairwise_cons.mp hp).2
          intro a b ha hb hab
          have e1 : a ≠ e := fun z => nd.1 (by rw [← z]; exact ha)
          have e2 : b ≠ e := fun z => nd.1 (by rw [← z]; exact hb)
          unfold aM at hab ⊢
          rw [t4, t6 68 a e1 (by decide) (by decide) (by decide) (by decide), t6 68 b e2 (by decide) (by decide) (by decide) (by decide)]
          exact hab)
      refine ⟨c', m', n' + 1, by rw [List.length_cons]; omega, by rw [show i + (n' + 1) = i + 1 + n' by omega]; exact u2, fr_trans t2 u3, ⟨a6, fun z => ?_⟩, fun c9 z => ?_⟩
      · rw [d_114_43]
        dsimp only
        rw [if_pos hlt, if_pos hlC, if_neg (iN_pos (by omega)), i32_nat (by omega), hg, nn_some, t7 z, bV_none, iN_add1]
        exact u4 z
      · rw [r205 h26.2.1 h26.1, hs, bI_some, show oI (some e) = iN e from rfl, show C - j = C - (j + 1) + 1 by omega, t8, d_210_247]
        exact u5 c9 z
/-- no parcel is chosen -/
theorem mark210 {N : Nat} {a1 a2 : Int32} (h40 : N ≤ 40) : ∀ (n i : Nat) (m : nM), i + n = N → m 1 24 = iN N → (∀ j, j < i → m 95 j = 0) → ∃ m', (∀ t, t ≠ 95 → m' t = m t) ∧ (∀ j, j < N → m' 95 j = 0) ∧ (∀ i c, nJ κ i c m → nJ κ i c m') ∧
    ∀ c9 z, R1 xs nx 210 52 [some (vR 1 (some 0)), some (vI a1), some (vI a2), some (vI (iN i)), none, none, none] [] (c9, m, z) = bI (R1 xs nx 205 0 [some (vR 1 (some 0)), some (vI (0 : Int32)), some (vI a1), none, none, none, none] [] (c9, m', z)) (fun x2 s1 => R1 xs nx 210 92 [some (vR 1 (some 0)), some (vI a1), some (vI a2), some (vI ((m 1 0 - m 1 0 / 24 * 24) / 12)), some (vI x2), none, none] [] s1) hE := by
  intro n
  induction n with
  | zero =>
    intro i m e hN hm
    have hn : ¬ iN i < iN N := by rw [iN_lt (by omega) (by omega)]; omega
    refine ⟨m, fun _ _ => rfl, fun j hj => hm j (by omega), fun _ _ h => h, fun c9 z => ?_⟩
    rw [d_210_52]
    simp only [hN, hn, if_false]
  | succ n ih =>
    intro i m e hN hm
    have hlt : iN i < iN N := (iN_lt (by omega) (by omega)).mpr (by omega)
    have hin : mIn (iN i) 40 = true := iN_in40 (by omega)
    have en : (iN i).toNatClampNeg = i := i32_nat (by omega)
    obtain ⟨m', t1, t2, t3, t4⟩ := ih (i + 1) (uM 95 i 0 m) (by omega) (by rw [uM_ne (by decide)]; exact hN) (fun j hj => by
      by_cases z : j = i
      · subst z; exact uM_kk
      · rw [uM_k z]; exact hm j (by omega))
    refine ⟨m', fun t ht => by rw [t1 t ht, uM_ne ht], t2, fun i' c h => t3 i' c (nJ_95 h), fun c9 z => ?_⟩
    rw [d_210_52]
    dsimp only
    simp only [hN]
    rw [if_pos hlt, if_pos ⟨hin, Or.inl trivial⟩, en, iN_add1]
    have := t4 c9 z
    rw [uM_ne (by decide)] at this
    exact this
/-- one sorting -/
theorem sortDep {i d t : Nat} {c : nC} {m : nM} (hJ : nJ κ i c m) (hp : i / 100000 ≠ 0) (hi : i % 100000 < 80000) (hd : d < 5) (ht : t < 600) (ck : m 1 0 = iN (t + 1)) (h31 : m 31 d = hRel (fI c 21 d 5) t) :
    ∃ (c' : nC) (m' : nM) (n' : Nat), n' ≤ 40 ∧ nJ κ (i + n') c' m' ∧ fs c m c' m' ∧ m' 31 d = hRel (fI c 21 d 5) (t + 1) ∧ (∀ j, j ≠ d → m' 31 j = m 31 j) ∧
      (∀ l4 l5 l6, ∃ l5' l6', ∀ z, R1 xs nx 114 10 [some (vR 0 (some 0)), some (vR 12 (some 0)), some (vI (5 : Int32)), some (vI (iN d)), l4, l5, l6] [] (c, z) = R1 xs nx 114 10 [some (vR 0 (some 0)), some (vR 12 (some 0)), some (vI (5 : Int32)), some (vI (iN (d + 1))), some (vR 21 (some d)), l5', l6'] [] (c', z)) ∧
      ∀ c9 z, R1 xs nx 210 0 [some (vR 1 (some 0)), some (vI (iN d)), none, none, none, none, none] [] (c9, m, z) = some (.inl none, (c9, m', z)) := by
  have h26 := hJ.1.2.2.1
  have din : mIn (iN d) 5 = true := iN_in hd (by decide)
  have den : (iN d).toNatClampNeg = d := i32_nat (by omega)
  obtain ⟨⟨e3, A, -, A1, A2⟩, ⟨e4, B, -, B1, B2⟩, ⟨⟨F, -, F1, F2⟩, -⟩, -⟩ := hJ.2.2.1 d hd
  -- the capacity
  have cap : ∃ C, C < 1000 ∧ (∀ s : nS, fI s.1 21 = fI c 21 → R1 xs nx 45 0 [some (vR 21 (some d)), some (vI (iN (t + 1)))] [] s = some (.inl (some (vI (iN C))), s)) ∧
      ∀ c9 z, R1 xs nx 210 0 [some (vR 1 (some 0)), some (vI (iN d)), none, none, none, none, none] [] (c9, m, z) = R1 xs nx 210 52 [some (vR 1 (some 0)), some (vI (iN d)), some (vI (iN C)), some (vI (iN 0)), none, none, none] [] (c9, uM 31 d (hRel (fI c 21 d 5) (t + 1)) m, z) := by
    by_cases q : t < F
    · have q1 : iN t < iN F := (iN_lt (by omega) (by omega)).mpr q
      have q2 : ¬ iN F < iN (t + 1) := by rw [iN_lt (by omega) (by omega)]; omega
      have e31 : m 31 d = iN (F - t) := by
        rw [h31, F2]
        unfold hRel
        rw [if_pos q1]
        exact i32_sub (by omega) (by omega)
      have pos : (0 : Int32) < iN (F - t) := (iN_lt (a := 0) (by omega) (by omega)).mpr (by omega)
      have enew : iN (F - t) - 1 = hRel (fI c 21 d 5) (t + 1) := by
        rw [F2]
        unfold hRel
        rw [show iN (F - t) - 1 = iN (F - t - 1) from i32_sub (b := 1) (by omega) (by omega)]
        by_cases q3 : t + 1 < F
        · rw [if_pos ((iN_lt (by omega) (by omega)).mpr q3), show iN F - iN (t + 1) = iN (F - (t + 1)) from i32_sub (by omega) (by omega)]
          congr 1
        · rw [if_neg (fun z => q3 ((iN_lt (by omega) (by omega)).mp z)), show F - t - 1 = 0 by omega]
          rfl
      refine ⟨A + B, by omega, fun s hs => ?_, fun c9 z => ?_⟩
      · rw [d_45_0, hs, F2, if_neg q2, e3, A2, e4, B2, show iN A + iN B = iN (A + B) from i32_add]
      · rw [d_210_0, if_pos din, if_pos din, den]
        simp only [e31]
        rw [if_pos pos, if_pos din, d_210_25, if_pos din, if_pos din, den]
        simp only [e31]
        rw [if_pos pos, d_210_48, if_pos din, den, enew, A2, B2, show iN A + iN B = iN (A + B) from i32_add]
        rfl
    · have q1 : ¬ iN t < iN F := fun z => q ((iN_lt (by omega) (by omega)).mp z)
      have q2 : iN F < iN (t + 1) := (iN_lt (by omega) (by omega)).mpr (by omega)
      have e31 : m 31 d = 0 := by
        rw [h31, F2]
        unfold hRel
        rw [if_neg q1]
      have pos : ¬ (0 : Int32) < 0 := by decide
      have enew : (0 : Int32) - 0 = hRel (fI c 21 d 5) (t + 1) := by
        rw [F2]
        unfold hRel
        rw [if_neg (fun z => q (by have := (iN_lt (by omega) (by omega)).mp z; omega))]
        rfl
      refine ⟨A, by omega, fun s hs => ?_, fun c9 z => ?_⟩
      · rw [d_45_0, hs, F2, if_pos q2, e3, A2]
      · rw [d_210_0, if_pos din, if_pos din, den]
        simp only [e31]
        rw [if_neg pos, d_210_25, if_pos din, if_pos din, den]
        simp only [e31]
        rw [if_neg pos, d_210_48, if_pos din, den, enew, A2, iN_a0]
        rfl
  obtain ⟨C, hC, cc, cr⟩ := cap
  have hJ1 := nJ_31 (d := d) (x := hRel (fI c 21 d 5) (t + 1)) hJ hp
  obtain ⟨m2, a1, a2, a3, a4⟩ := mark210 (xs := xs) (nx := nx) (a1 := iN d) (a2 := iN C) h26.1 (fN c 26) 0 (uM 31 d (hRel (fI c 21 d 5) (t + 1)) m) (Nat.zero_add _) (by rw [uM_ne (by decide)]; exact h26.2.1) (fun j hj => by omega)
  have hJ2 := a3 i c hJ1
  obtain ⟨g1, -, -⟩ := hJ2.2.2.2.2.2.2.2.2.2.1
  obtain ⟨x1, x2, x3, x4⟩ := exL_spec (w := 0) hJ2 (g1 d hd)
  have hlen : (fL c 3 d).length ≤ 40 := by have := nLin_le (g1 d hd); omega
  have hL20 : fL (uL 20 0 (exL c (fL c 3 d)) c) 20 0 = exL c (fL c 3 d) := by rw [fL_at, if_pos rfl]
  have ck2 : m2 1 0 = iN (t + 1) := by rw [a1 1 (by decide), uM_ne (by decide)]; exact ck
  obtain ⟨c', m', n', u1, u2, u3, ⟨a6, u4⟩, u5⟩ := sortL (xs := xs) (nx := nx) (d := d) (h := t + 1) (C := C) hd (by omega) hC (exL c (fL c 3 d)) 0 i (uL 20 0 (exL c (fL c 3 d)) c) m2 none none (nJ_L20 hJ2) (by omega) ck2 (by rw [hL20]; rfl) (by rw [hL20]; omega) (by rw [hL20]; omega) (Nat.zero_le _)
    (fun x hx => by
      rw [x1 x]
      unfold cM
      constructor
      · intro w
        have w := of_decide_eq_true w
        exact ⟨hx, w.1, w.2.1⟩
      · rintro ⟨-, w1, w2⟩
        exact decide_eq_true ⟨w1, w2, a2 x hx⟩)
    (fun x hx => ((x1 x).mp hx).1) x2 x3
  have f0 : fs c m (uL 20 0 (exL c (fL c 3 d)) c) m2 := fs_trans fs_31 (fs_trans (fs_rows a1) (fs_fr fr_uL))
  refine ⟨c', m', n', by omega, u2, fs_trans f0 (fs_fr u3), ?_, fun j hj => ?_, fun l4 l5 l6 => ⟨some (vI (iN C)), some (vI a6), fun z => ?_⟩, fun c9 z => ?_⟩
  · rw [u3.2.2.2.2.2.2.1, a1 31 (by decide), uM_kk]
  · rw [u3.2.2.2.2.2.2.1, a1 31 (by decide), uM_k hj]
  · rw [d_114_10, if_pos (show iN d < (5 : Int32) from (iN_lt (b := 5) (by omega) (by omega)).mpr hd), if_pos din, den, r110 rfl (by decide) (by omega), bV_none]
    show bI (R1 xs nx 45 0 [some (vR 21 (some d)), some (vI (fI c 0 0 9))] [] (uL 20 0 (exL c (fL c 3 d)) c, z)) _ _ = _
    rw [(nJ_ck hJ).1, ck, cc _ rfl, bI_some]
    have := u4 z
    rw [show R1 xs nx 114 43 [some (vR 0 (some 0)), some (vR 12 (some 0)), some (vI (5 : Int32)), some (vI (iN d)), some (vR 21 (some d)), some (vI (iN C)), some (vI (0 : Int32))] [] (uL 20 0 (exL c (fL c 3 d)) c, z) = _ from this, d_114_86, iN_add1]
  · rw [cr, a4]
    have := u5 c9 z
    rw [uM_ne (by decide), ck]
    exact this
/-- all sortings -/
theorem sortA {t : Nat} (ht : t < 600) : ∀ (n d i : Nat) (c : nC) (m : nM) (l4 l5 l6 : Option nV), d + n = 5 → nJ κ i c m → i / 100000 ≠ 0 → i % 100000 + 40 * n < 80000 → m 1 0 = iN (t + 1) → (∀ d', d' < 5 → m 31 d' = hRel (fI c 21 d' 5) (if d' < d then t + 1 else t)) →
    ∃ (c' : nC) (m' : nM) (n' : Nat), n' ≤ 40 * n ∧ nJ κ (i + n') c' m' ∧ fs c m c' m' ∧ (∀ d', d' < 5 → m' 31 d' = hRel (fI c' 21 d' 5) (t + 1)) ∧
      (∀ z, R1 xs nx 114 10 [some (vR 0 (some 0)), some (vR 12 (some 0)), some (vI (5 : Int32)), some (vI (iN d)), l4, l5, l6] [] (c, z) = some (.inl none, (c', z))) ∧
      ∀ c9 z, R1 xs nx 222 37 [some (vR 1 (some 0)), some (vI (iN d))] [] (c9, m, z) = R1 xs nx 222 55 [some (vR 1 (some 0)), some (vI (0 : Int32))] [] (c9, m', z) := by
  intro n
  induction n with
  | zero =>
    intro d i c m l4 l5 l6 e hJ hp hi ck h31
    have : d = 5 := by omega
    subst this
    refine ⟨c, m, 0, Nat.le_refl _, hJ, fs_refl, fun d' hd' => by rw [h31 d' hd', if_pos hd'], fun z => ?_, fun c9 z => ?_⟩
    · rw [d_114_10, if_neg (by decide)]
    · rw [d_222_37, if_neg (by decide)]
  | succ n ih =>
    intro d i c m l4 l5 l6 e hJ hp hi ck h31
    have hd : d < 5 := by omega
    have hlt : iN d < (5 : Int32) := (iN_lt (b := 5) (by omega) (by omega)).mpr hd
    have h0 := h31 d hd
    rw [if_neg (Nat.lt_irrefl _)] at h0
    obtain ⟨c1, m1, n1, t1, t2, t3, t4, t5, t6, t7⟩ := sortDep (xs := xs) (nx := nx) hJ hp (by omega) hd ht ck h0
    obtain ⟨l5', l6', t6⟩ := t6 l4 l5 l6
    obtain ⟨c', m', n', u1, u2, u3, u4, u5, u6⟩ := ih (d + 1) (i + n1) c1 m1 (some (vR 21 (some d))) l5' l6' (by omega) t2 (by omega) (by omega) (by rw [t3.2.2.2.1]; exact ck) (fun d' hd' => by
      rw [t3.2.1 d']
      by_cases z : d' = d
      · subst z
        rw [t4, if_pos (Nat.lt_succ_self _)]
      · rw [t5 d' z, h31 d' hd']
        by_cases w : d' < d
        · rw [if_pos w, if_pos (by omega)]
        · rw [if_neg w, if_neg (by omega)])
    refine ⟨c', m', n1 + n', by omega, by rw [← Nat.add_assoc]; exact u2, fs_trans t3 u3, u4, fun z => ?_, fun c9 z => ?_⟩
    · rw [t6 z]
      exact u5 z
    · rw [d_222_37, if_pos hlt, t7 c9 z, bV_none, iN_add1]
      exact u6 c9 z
end OQN
end KAP
