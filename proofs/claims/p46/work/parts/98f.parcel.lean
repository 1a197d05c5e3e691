/-! ===== parcel ===== -/
section KAP
variable {κ : kP}
section OPX
variable {xs : Nat → Int32} {nx : Nat}
def oB (o : Option Nat) : Int32 := match o with
  | none => 0
  | some _ => 1
theorem ref93 {s : nS} {u P : Nat} {a2 : Int32} (hl : fL s.1 16 0 = List.range P) (hP : P ≤ 40) : ∀ (n i : Nat) (l4 : Option nV), i + n = P → R1 xs nx 93 2 [some (vR 0 (some 0)), some (vR 22 (some u)), some (vI a2), some (vI (iN i)), l4] [] s = some (.inl (some (vI (oB (nFst (fun k => decide (fP s.1 26 k 8 = some u ∧ fI s.1 26 k 9 = a2)) n i)))), s) := by
  intro n
  induction n with
  | zero =>
    intro i l4 e
    rw [d_93_2, hl, List.length_range, if_neg (fun z => by have := (iN_lt (by omega) (by omega)).mp z; omega)]
    rfl
  | succ n ih =>
    intro i l4 e
    rw [d_93_2, hl, List.length_range, if_pos ((iN_lt (by omega) (by omega)).mpr (by omega)), if_neg (iN_pos (by omega)), i32_nat (by omega), List.getElem?_range (by omega), nn_some]
    simp only [nFst]
    by_cases h1 : fP s.1 26 i 8 = some u
    · rw [if_pos h1]
      by_cases h2 : fI s.1 26 i 9 = a2
      · rw [if_pos h2, if_pos (decide_eq_true ⟨h1, h2⟩)]
        rfl
      · rw [if_neg h2, d_93_46, iN_add1, ih (i + 1) _ (by omega), if_neg (c := (decide (fP s.1 26 i 8 = some u ∧ fI s.1 26 i 9 = a2) = true)) (fun z => h2 (of_decide_eq_true z).2)]
    · rw [if_neg h1, d_93_46, iN_add1, ih (i + 1) _ (by omega), if_neg (c := (decide (fP s.1 26 i 8 = some u ∧ fI s.1 26 i 9 = a2) = true)) (fun z => h1 (of_decide_eq_true z).1)]
theorem ref189_1 {s : nS} {a1 a2 : Int32} {P : Nat} (hu : s.2.1 1 24 = iN P) (hP : P ≤ 40) : ∀ (n i : Nat), i + n = P → R1 xs nx 189 5 [some (vR 1 (some 0)), some (vI a1), some (vI a2), some (vI 1), some (vI (iN i))] [] s = some (.inl (some (vI 1)), s) := by
  intro n
  induction n with
  | zero =>
    intro i e
    rw [d_189_5, hu, if_neg (fun z => by have := (iN_lt (by omega) (by omega)).mp z; omega), if_pos (Or.inr rfl)]
  | succ n ih =>
    intro i e
    rw [d_189_5, hu, if_pos ((iN_lt (by omega) (by omega)).mpr (by omega)), if_neg n10, d_189_40, d_189_45, iN_add1]
    exact ih (i + 1) (by omega)
theorem ref189 {s : nS} {a1 a2 : Int32} {P : Nat} (hu : s.2.1 1 24 = iN P) (hP : P ≤ 40) : ∀ (n i : Nat), i + n = P → R1 xs nx 189 5 [some (vR 1 (some 0)), some (vI a1), some (vI a2), some (vI 0), some (vI (iN i))] [] s = some (.inl (some (vI (oB (nFst (fun k => decide (s.2.1 49 k = a1 ∧ s.2.1 50 k = a2)) n i)))), s) := by
  intro n
  induction n with
  | zero =>
    intro i e
    rw [d_189_5, hu, if_neg (fun z => by have := (iN_lt (by omega) (by omega)).mp z; omega), if_pos (Or.inl rfl)]
    rfl
  | succ n ih =>
    intro i e
    have hin : mIn (iN i) 40 = true := iN_in40 (by omega)
    have en : (iN i).toNatClampNeg = i := i32_nat (by omega)
    rw [d_189_5, hu, if_pos ((iN_lt (by omega) (by omega)).mpr (by omega)), if_pos rfl, if_pos hin, en]
    simp only [nFst]
    by_cases h1 : s.2.1 49 i = a1
    · rw [if_pos h1, if_pos hin]
      by_cases h2 : s.2.1 50 i = a2
      · rw [if_pos h2, d_189_40, d_189_45, iN_add1, ref189_1 hu hP n (i + 1) (by omega), if_pos (c := (decide (s.2.1 49 i = a1 ∧ s.2.1 50 i = a2) = true)) (decide_eq_true ⟨h1, h2⟩)]
        rfl
      · rw [if_neg h2, d_189_44, d_189_45, iN_add1, ih (i + 1) (by omega), if_neg (c := (decide (s.2.1 49 i = a1 ∧ s.2.1 50 i = a2) = true)) (fun z => h2 (of_decide_eq_true z).2)]
    · rw [if_neg h1, d_189_44, d_189_45, iN_add1, ih (i + 1) (by omega), if_neg (c := (decide (s.2.1 49 i = a1 ∧ s.2.1 50 i = a2) = true)) (fun z => h1 (of_decide_eq_true z).1)]
theorem nLin_new {P : Nat} {w a o w' a' o' : Nat → Int32} {x y W A u : Int32} {L : List Nat} (h : nLin P w a o x y L) (ho : ∀ j, j < P → o j < u)
    (hw : ∀ j, j ≠ P → w' j = w j) (ha : ∀ j, j ≠ P → a' j = a j) (hO : ∀ j, j ≠ P → o' j = o j) (wk : w' P = W) (ak : a' P = A) (ok : o' P = u) :
    nLin (P + 1) w' a' o' x y (if W = x ∧ A = y then L ++ [P] else L) := by
  have h0 : ∀ j, j ∈ L → j < P := fun j hj => ((h.1 j).mp hj).1
  have hp' : L.Pairwise (fun i j => o' i < o' j) := by
    refine List.Pairwise.imp_of_mem ?_ h.2
    intro i j hi hj hij
    have := h0 i hi
    have := h0 j hj
    rw [hO i (by omega), hO j (by omega)]
    exact hij
  by_cases e : W = x ∧ A = y
  · rw [if_pos e]
    refine ⟨fun j => ?_, ?_⟩
    · rw [List.mem_append, List.mem_singleton, h.1 j]
      by_cases q : j = P
      · subst q
        rw [wk, ak]
        exact ⟨fun _ => ⟨Nat.lt_succ_self _, e⟩, fun _ => Or.inr rfl⟩
      · rw [hw j q, ha j q]
        exact ⟨fun z => z.elim (fun z => ⟨by omega, z.2⟩) (fun z => absurd z q), fun z => Or.inl ⟨by omega, z.2⟩⟩
    · rw [List.pairwise_append]
      refine ⟨hp', List.pairwise_singleton _ _, fun i hi j hj => ?_⟩
      rw [List.mem_singleton] at hj
      subst hj
      have := h0 i hi
      rw [ok, hO i (by omega)]
      exact ho i this
  · rw [if_neg e]
    refine ⟨fun j => ?_, hp'⟩
    rw [h.1 j]
    by_cases q : j = P
    · subst q
      rw [wk, ak]
      exact ⟨fun z => absurd z.1 (Nat.lt_irrefl _), fun z => absurd z.2 e⟩
    · rw [hw j q, ha j q]
      exact ⟨fun z => ⟨by omega, z.2⟩, fun z => ⟨by omega, z.2⟩⟩
theorem nJ_new {i k d : Nat} {c c' : nC} {m m' : nM} (hJ : nJ κ i c m) (hi : i % 100000 < 90000) (hk : fN c 26 = k) (h40 : k < 40) (hd : d < 5)
    (cI : ∀ t, t ≠ 26 → t ≠ 8 → t ≠ 9 → fI c' t = fI c t) (cIn : ∀ t k' j, k' ≠ k → fI c' t k' j = fI c t k' j) (cX : ∀ t, t ≠ 26 → fX c' t = fX c t) (cXn : ∀ t k' j, k' ≠ k → fX c' t k' j = fX c t k' j)
    (cP : ∀ t, t ≠ 26 → t ≠ 8 → t ≠ 9 → fP c' t = fP c t) (cPn : ∀ t k' j, k' ≠ k → fP c' t k' j = fP c t k' j) (cQn : ∀ k', k' ≠ k → fQ c' k' = fQ c k')
    (cL : ∀ t, t ≠ 3 → t ≠ 10 → t ≠ 16 → fL c' t = fL c t) (cL3 : ∀ l, fL c' 3 l = if l = d then fL c 3 l ++ [k] else fL c 3 l) (cL10 : ∀ l, fL c' 10 l = if l = k then [] else fL c 10 l) (cL16 : fL c' 16 0 = fL c 16 0 ++ [k])
    (cN : ∀ t, t ≠ 26 → fN c' t = fN c t) (cN26 : fN c' 26 = k + 1) (g4 : fI c' 8 k 4 = 0) (d5 : fP c' 8 k 5 = none)
    (mt : ∀ t, t ≠ 1 → (t < 49 ∨ (54 < t ∧ t < 58) ∨ (62 < t ∧ t < 66) ∨ (68 < t ∧ t ≠ 76)) → m' t = m t) (mn : ∀ t k', t ≠ 1 → k' ≠ k → m' t k' = m t k') (m1 : ∀ j, j ≠ 1 → j ≠ 24 → m' 1 j = m 1 j) (m24 : m' 1 24 = iN (k + 1)) (m11 : m' 1 1 = m 1 1 + 1)
    (m66 : m' 66 k = 0) (m67 : m' 67 k = iN d) (m68 : m' 68 k = m 1 1)
    (hP : nPar (fI c' 26 k) (fI c' 8 k) (fX c' 26 k) (fP c' 26 k) (fN c 24) (m 1 0) (m' 49) (m' 50) (m' 51) (m' 52) (m' 53) (m' 54) (m 55) (m 56) (m 57) (m' 58) (m' 59) (m' 60) (m' 61) (m' 62) (m 63) (m 64) (m 65) (m' 76) k)
    (hS : nSty (fI c' 9 k) (fP c' 9 k) (fQ c' k) (fX c 23) (fX c 28) (fI c 23) (fN c 23) (fN c 27) (fN c 28) (i / 100000) (m 1 0) (m' 66) (m' 67) (m 69) (m 70) (m 71) (m 72) (m 73) (m 74) (m 75) k)
    (hU : ∀ j, j < k → m' 49 j = m' 49 k → m' 50 j ≠ m' 50 k) : nJ (kNet κ.1 κ.2.2.2.2.2.2.2.2 c') (i + 1) c' m' := by
  obtain ⟨O, o1, o2, o3⟩ := nJ_o hJ hi
  have h23 := hJ.1.1.1
  have e66 : ∀ j, j ≠ k → m' 66 j = m 66 j := fun j hj => mn 66 j (by decide) hj
  have e67 : ∀ j, j ≠ k → m' 67 j = m 67 j := fun j hj => mn 67 j (by decide) hj
  have e68 : ∀ j, j ≠ k → m' 68 j = m 68 j := fun j hj => mn 68 j (by decide) hj
  have f9 : ∀ x, x ≠ k → fI c' 9 x = fI c 9 x := fun x h => funext fun j => cIn 9 x j h
  have f8 : ∀ x, x ≠ k → fI c' 8 x = fI c 8 x := fun x h => funext fun j => cIn 8 x j h
  have f26 : ∀ x, x ≠ k → fI c' 26 x = fI c 26 x := fun x h => funext fun j => cIn 26 x j h
  have x26 : ∀ x, x ≠ k → fX c' 26 x = fX c 26 x := fun x h => funext fun j => cXn 26 x j h
  have p26 : ∀ x, x ≠ k → fP c' 26 x = fP c 26 x := fun x h => funext fun j => cPn 26 x j h
  have p9 : ∀ x, x ≠ k → fP c' 9 x = fP c 9 x := fun x h => funext fun j => cPn 9 x j h
  subst hk
  have ep : (i + 1) / 100000 = i / 100000 := by omega
  unfold nJ at hJ ⊢
  rw [ep]
  obtain ⟨j1, j2, j3, j4, j5, j6, j7, j8, j9, j10, j11, j12, j13, j14, j15⟩ := hJ
  have hnew := j7 (fN c 26) (Nat.le_refl _) h40
  simp (disch := decide) only [cI, cX, cP, cL, cN, mt, m1, cN26, cL16]
  refine ⟨?_, ?_, j3, j4, j5, fun x hx => ?_, fun x hx hx4 => ?_, fun x hx => ?_, ⟨?_, fun x hx => ?_⟩, ?_, fun x hx => ?_, ?_, ?_, ?_, j15.1, ⟨⟨rfl, rfl, rfl, rfl, rfl⟩, (cX 23 (by decide)).symm, fun l => congrFun (congrFun (cI 23 (by decide) (by decide) (by decide)).symm l) 3, (cX 24 (by decide)).symm, (cX 27 (by decide)).symm, fun l => congrFun (congrFun (cI 27 (by decide) (by decide) (by decide)).symm l) 3, (cX 28 (by decide)).symm, fun l hl => j15.2.1.2.2.2.2.2.2.2 l (by rw [cN 28 (by decide)] at hl; exact hl)⟩, ?_, ?_, j15.2.2.2.2⟩
  · unfold gCnt at j1 ⊢
    simp (disch := decide) only [m1, m24, cN, cN26]
    obtain ⟨q1, q2, ⟨q3, q4, q5⟩, q6, q7, q8⟩ := j1
    exact ⟨q1, q2, ⟨by omega, by trivial, by rw [q5]; exact List.range_succ.symm⟩, q6, q7, q8⟩
  · obtain ⟨h1, t, O', h2, h3, h4, h5⟩ := j2
    refine ⟨by rw [m1 0 (by decide) (by decide)]; exact h1, t, O' + 1, h2, by rw [m1 0 (by decide) (by decide)]; exact h3, by rw [m11, h4, iN_add1], by omega⟩
  · by_cases e : x = fN c 26
    · subst e; exact hP
    · have := j6 x (by omega)
      rw [f26 x e, f8 x e, x26 x e, p26 x e]
      unfold nPar at this ⊢
      simp (disch := decide) only [mn _ x _ e]
      exact this
  · have := j7 x (by omega) hx4
    exact this
  · by_cases e : x = fN c 26
    · subst e; exact hS
    · have := j8 x (by omega)
      rw [f9 x e, p9 x e, cQn x e]
      unfold nSty at this ⊢
      simp only [e66 x e, e67 x e]
      exact this
  · obtain ⟨⟨g1, g2⟩, -⟩ := j9
    have hO1 : m' 1 1 = iN (O + 1) := by rw [m11, o1, iN_add1]
    have hlt : ∀ j, j < fN c 26 → m 68 j ≠ m 1 1 := by
      intro j hj z
      have := o3 j hj
      rw [z, i32_ltt] at this
      omega
    refine ⟨fun j hj => ?_, fun j j' hj hj' e => ?_⟩
    · rw [hO1]
      by_cases e : j = fN c 26
      · subst e
        rw [m68, o1]
        refine ⟨?_, (iN_lt (by omega) (by omega)).mpr (by omega)⟩
        rw [Int32.le_iff_toInt_le, iN_toInt (by omega), show (0 : Int32).toInt = 0 from rfl]
        omega
      · have h0 := g1 j (by omega)
        rw [e68 j e]
        refine ⟨h0.1, ?_⟩
        have h9 := h0.2
        rw [o1, i32_ltt, iN_toInt (by omega)] at h9
        rw [i32_ltt, iN_toInt (by omega)]
        omega
    · by_cases e1 : j = fN c 26
      · by_cases e2 : j' = fN c 26
        · rw [e1, e2]
        · rw [e1, m68, e68 j' e2] at e
          exact absurd e.symm (hlt j' (by omega))
      · by_cases e2 : j' = fN c 26
        · rw [e2, m68, e68 j e1] at e
          exact absurd e (hlt j (by omega))
        · rw [e68 j e1, e68 j' e2] at e
          exact g2 j j' (by omega) (by omega) e
  · by_cases e : x = fN c 26
    · subst e
      exact ⟨fun z => absurd (m66.symm.trans z) (by decide), fun z => absurd (m66.symm.trans z) (by decide)⟩
    · have := j9.2 x (by omega)
      unfold nTgt at this ⊢
      rw [e66 x e, e67 x e, mn 51 x (by decide) e, mn 52 x (by decide) e, mn 60 x (by decide) e]
      exact this
  · obtain ⟨g1, g2, g3⟩ := j10
    refine ⟨fun l hl => ?_, fun l hl => ?_, fun l hl => ?_⟩
    · have := nLin_new (g1 l hl) o3 e66 e67 e68 m66 m67 m68
      rw [cL3]
      by_cases e : l = d
      · subst e
        rw [if_pos ⟨rfl, rfl⟩] at this
        rw [if_pos rfl]
        exact this
      · rw [if_neg (fun z => e ((iN_inj (by omega) (by omega)).mp z.2).symm)] at this
        rw [if_neg e]
        exact this
    · have := nLin_new (g2 l hl) o3 e66 e67 e68 m66 m67 m68
      rw [if_neg (fun z => c01 z.1)] at this
      exact this
    · have := nLin_new (g3 l hl).1 o3 e66 e67 e68 m66 m67 m68
      rw [if_neg (fun z => c02 z.1)] at this
      refine ⟨this, ?_⟩
      refine List.Pairwise.imp_of_mem ?_ (g3 l hl).2
      intro a b ha hb hab
      have ha' := (((g3 l hl).1.1 a).mp ha).1
      have hb' := (((g3 l hl).1.1 b).mp hb).1
      rw [cIn 9 a 2 (by omega), cIn 9 b 2 (by omega)]
      exact hab
  · by_cases e : x = fN c 26
    · subst e
      unfold nMon
      rw [g4, d5, m66, hnew.2.2.2.2.2.2.1, hnew.2.2.2.2.2.2.2, hnew.2.1]
      exact ⟨Or.inl rfl, Or.inl rfl, fun _ => rfl, fun _ => rfl, Or.inl rfl, fun _ => ⟨rfl, rfl, Or.inl rfl⟩, fun _ => rfl, fun _ z => (by cases z), fun _ z => absurd rfl z⟩
    · have := j11 x (by omega)
      rw [f8 x e, cPn 8 x 5 e]
      unfold nMon at this ⊢
      simp (disch := decide) only [mn _ x _ e]
      exact this
  · obtain ⟨v1, v2, v3⟩ := j12
    refine ⟨fun v hv => ?_, v2, v3⟩
    obtain ⟨y1, y2, y3, y4, y5⟩ := v1 v hv
    refine ⟨y1, y2, y3, fun hp => ?_, y5⟩
    obtain ⟨r1, r2, r3, r4, r5, r6⟩ := y4 hp
    refine ⟨r1, r2, r3, fun j hj z1 z2 => ?_, fun j hj z => ?_, fun j x hjx => ?_⟩
    · by_cases e : j = fN c 26
      · subst e
        rw [m66] at z1
        exact absurd z1 (by decide)
      · rw [e66 j e] at z1
        rw [e67 j e] at z2
        exact r4 j (by omega) z1 z2
    · by_cases e : j = fN c 26
      · subst e
        rw [hnew.2.2.2.2.2.2.2] at z
        have hv6 : fN c 27 ≤ 6 := j1.2.2.2.1.1
        have := (iN_inj (a := 0) (by omega) (by omega)).mp z
        omega
      · exact r5 j (by omega) z
    · obtain ⟨w1, w2⟩ := r6 j x hjx
      have e : x ≠ fN c 26 := by omega
      rw [e66 x e, e67 x e, cIn 9 x 9 e]
      exact ⟨by omega, w2⟩
  · intro l hl
    refine ⟨(j13 l hl).1, fun j j1' j4' => ?_⟩
    obtain ⟨w1, w2, w3⟩ := (j13 l hl).2 j j1' j4'
    refine ⟨w1, w2, ?_⟩
    have hc : (List.range (fN c 26)).filter (fun x => decide (m' 66 x = 5 ∧ m' 67 x = iN l ∧ m 71 x = iN j)) = (List.range (fN c 26)).filter (fun x => decide (m 66 x = 5 ∧ m 67 x = iN l ∧ m 71 x = iN j)) := by
      apply List.filter_congr
      intro x hx
      rw [List.mem_range] at hx
      rw [e66 x (by omega), e67 x (by omega)]
    have hd' : ¬ (decide (m' 66 (fN c 26) = 5 ∧ m' 67 (fN c 26) = iN l ∧ m 71 (fN c 26) = iN j) = true) := by
      intro z
      have := (of_decide_eq_true z).1
      rw [m66] at this
      exact absurd this (by decide)
    rw [List.range_succ, List.filter_append, hc, List.filter_cons, if_neg hd', List.filter_nil, List.append_nil]
    exact w3
  · obtain ⟨b1, b2, b3⟩ := j14
    refine ⟨b1, fun x hx => ?_, fun b hb => ?_⟩
    · rw [cL10]
      by_cases e : x = fN c 26
      · subst e
        rw [if_pos rfl]
        symm
        rw [List.filter_eq_nil_iff]
        intro b hb z
        obtain ⟨y, y1, y2⟩ := b3 b hb
        have z := of_decide_eq_true z
        rw [y2] at z
        have := (iN_inj (by omega) (by omega)).mp z
        omega
      · rw [if_neg e]
        exact b2 x (by omega)
    · obtain ⟨y, y1, y2⟩ := b3 b hb
      exact ⟨y, by omega, y2⟩
  · rw [nHan_s, m66, if_neg (by decide), nHan_eq fun j hj => e66 j (by omega)]
    exact j15.2.2.1
  · intro j x hjx hx
    by_cases e : x = fN c 26
    · subst e
      exact hU j hjx
    · rw [mn 49 j (by decide) (by omega), mn 49 x (by decide) e, mn 50 j (by decide) (by omega), mn 50 x (by decide) e]
      exact j15.2.2.2.1 j x hjx (by omega)
section PA
variable {k sd r : Nat} {sz ex told : Int32} {c : nC}

theorem pI {t : Nat} (h1 : t ≠ 26) (h2 : t ≠ 8) (h3 : t ≠ 9) : fI (nParcel k sd r sz ex told c) t = fI c t := by
  unfold nParcel
  simp only [fI_ne h1, fI_ne h2, fI_ne h3, fI_uX, fI_uP, fI_uQ, fI_uL, fI_uN]
theorem pIn {t k' j : Nat} (h : k' ≠ k) : fI (nParcel k sd r sz ex told c) t k' j = fI c t k' j := by
  unfold nParcel
  simp only [fI_n h, fI_uX, fI_uP, fI_uQ, fI_uL, fI_uN]
theorem pX {t : Nat} (h1 : t ≠ 26) : fX (nParcel k sd r sz ex told c) t = fX c t := by
  unfold nParcel
  simp only [fX_ne h1, fX_uI, fX_uP, fX_uQ, fX_uL, fX_uN]
theorem pXn {t k' j : Nat} (h : k' ≠ k) : fX (nParcel k sd r sz ex told c) t k' j = fX c t k' j := by
  unfold nParcel
  simp only [fX_n h, fX_uI, fX_uP, fX_uQ, fX_uL, fX_uN]
theorem pP {t : Nat} (h1 : t ≠ 26) (h2 : t ≠ 8) (h3 : t ≠ 9) : fP (nParcel k sd r sz ex told c) t = fP c t := by
  unfold nParcel
  simp only [fP_ne h1, fP_ne h2, fP_ne h3, fP_uX, fP_uI, fP_uQ, fP_uL, fP_uN]
theorem pPn {t k' j : Nat} (h : k' ≠ k) : fP (nParcel k sd r sz ex told c) t k' j = fP c t k' j := by
  unfold nParcel
  simp only [fP_n h, fP_uX, fP_uI, fP_uQ, fP_uL, fP_uN]
theorem pQ : fQ (nParcel k sd r sz ex told c) k = none := by
  unfold nParcel
  simp only [fQ_uX, fQ_uI, fQ_uP, fQ_uQ, up1, if_true]
theorem pQn {k' : Nat} (h : k' ≠ k) : fQ (nParcel k sd r sz ex told c) k' = fQ c k' := by
  unfold nParcel
  simp only [fQ_uX, fQ_uI, fQ_uP, fQ_uQ, fQ_uL, fQ_uN, up1, h, if_false]
theorem pL {t : Nat} (h : t ≠ 10) : fL (nParcel k sd r sz ex told c) t = fL c t := by
  unfold nParcel
  simp only [fL_uX, fL_uI, fL_uP, fL_uQ, fL_ne h, fL_uN]
theorem pL10 {l : Nat} : fL (nParcel k sd r sz ex told c) 10 l = if l = k then [] else fL c 10 l := by
  unfold nParcel
  simp only [fL_uX, fL_uI, fL_uP, fL_uQ, fL_at, fL_uN]
theorem pN {t : Nat} (h : t ≠ 26) : fN (nParcel k sd r sz ex told c) t = fN c t := by
  unfold nParcel
  simp only [fN_uX, fN_uI, fN_uP, fN_uQ, fN_uL, fN_ne h]
theorem pN26 : fN (nParcel k sd r sz ex told c) 26 = k + 1 := by
  unfold nParcel
  simp only [fN_uX, fN_uI, fN_uP, fN_uQ, fN_uL, fN_at]
theorem p95 : fP (nParcel k sd r sz ex told c) 9 k 5 = none := by
  unfold nParcel
  simp only [fP_uX, fP_uI, fP_k, fP_ne (show (9 : Nat) ≠ 26 by decide), fP_ne (show (9 : Nat) ≠ 8 by decide)]
  rfl
end PA
end OPX
end KAP
