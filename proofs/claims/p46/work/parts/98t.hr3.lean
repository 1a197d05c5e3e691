/-! ===== an hour: the order of a sorting or a lane ===== -/
section KAP
variable {κ : kP}
section OQL
variable {xs : Nat → Int32} {nx : Nat}
theorem uL_uL {t k : Nat} {x y : List Nat} {c : nC} : uL t k x (uL t k y c) = uL t k x c := by
  show (c.1, c.2.1, c.2.2.1, c.2.2.2.1, up2 (up2 c.2.2.2.2.1 t k y) t k x, c.2.2.2.2.2) = (c.1, c.2.1, c.2.2.1, c.2.2.2.1, up2 c.2.2.2.2.1 t k x, c.2.2.2.2.2)
  have : up2 (up2 c.2.2.2.2.1 t k y) t k x = up2 c.2.2.2.2.1 t k x := by
    funext a b
    unfold up2
    split <;> rfl
  rw [this]
theorem nJ_L20 {i : Nat} {c : nC} {m : nM} {x : List Nat} (h : nJ κ i c m) : nJ κ i (uL 20 0 x c) m := by
  unfold nJ at h ⊢
  simp (disch := decide) only [fL_ne, fI_uL, fX_uL, fP_uL, fQ_uL, fN_uL]
  exact h
/-- express ones first -/
def exL (c : nC) (L : List Nat) : List Nat := L.filter (fun e => decide (fI c 26 e 3 = 1)) ++ L.filter (fun e => decide (fI c 26 e 3 = 0))
theorem r109 {t l : Nat} {a : Int32} {c : nC} (ht : nLt t = 26) (h20 : t ≠ 20) (h400 : (fL c t l).length ≤ 100) {z : nM × Nat × (Nat → Int64)} : ∀ (n i : Nat) (O : List Nat) (l4 : Option nV), i + n = (fL c t l).length → O.length ≤ 100 + i →
    R1 xs nx 109 2 [some (vR 0 (some 0)), some (vL (some (t, l))), some (vI a), some (vI (iN i)), l4] [] (uL 20 0 O c, z) = some (.inl none, (uL 20 0 (O ++ ((fL c t l).drop i).filter (fun e => decide (fI c 26 e 3 = a))) c, z)) := by
  intro n
  induction n with
  | zero =>
    intro i O l4 e hO
    have hn : ¬ iN i < iN (fL c t l).length := by rw [iN_lt (by omega) (by omega)]; omega
    rw [d_109_2]
    dsimp only
    rw [fL_ne h20, if_neg hn, List.drop_eq_nil_of_le (by omega), List.filter_nil, List.append_nil]
  | succ n ih =>
    intro i O l4 e hO
    have hi : i < (fL c t l).length := by omega
    have hlt : iN i < iN (fL c t l).length := (iN_lt (by omega) (by omega)).mpr hi
    rw [d_109_2]
    dsimp only
    rw [fL_ne h20, if_pos hlt, if_neg (iN_pos (by omega)), i32_nat (by omega), List.getElem?_eq_getElem hi, nn_some, ht, ntg_self, fI_uL, fL_at, if_pos rfl, List.drop_eq_getElem_cons hi, List.filter_cons]
    by_cases q : fI c 26 (fL c t l)[i] 3 = a
    · rw [if_pos q, if_pos (by omega), uL_uL, d_109_39, iN_add1, ih (i + 1) _ _ (by omega) (by rw [List.length_append]; simp only [List.length_singleton]; omega), if_pos (decide_eq_true q), List.append_assoc]
      rfl
    · rw [if_neg q, d_109_39, iN_add1, ih (i + 1) _ _ (by omega) (by omega), if_neg (fun z => q (of_decide_eq_true z))]
theorem r110 {t l : Nat} {c : nC} (ht : nLt t = 26) (h20 : t ≠ 20) (h400 : (fL c t l).length ≤ 100) {z : nM × Nat × (Nat → Int64)} :
    R1 xs nx 110 0 [some (vR 0 (some 0)), some (vL (some (t, l)))] [] (c, z) = some (.inl none, (uL 20 0 (exL c (fL c t l)) c, z)) := by
  have h1 := r109 (xs := xs) (nx := nx) (a := 1) ht h20 h400 (z := z) (fL c t l).length 0 [] none (Nat.zero_add _) (by simp)
  have h2 := r109 (xs := xs) (nx := nx) (a := 0) ht h20 h400 (z := z) (fL c t l).length 0 ((fL c t l).filter (fun e => decide (fI c 26 e 3 = 1))) none (Nat.zero_add _) (Nat.le_trans (List.length_filter_le _ _) (by omega))
  rw [d_110_0]
  dsimp only
  rw [d_109_0, show (0 : Int32) = iN 0 from rfl, h1, bV_none, d_109_0, show (0 : Int32) = iN 0 from rfl, List.nil_append, List.drop_zero, show R1 xs nx 109 2 [some (vR 0 (some 0)), some (vL (some (t, l))), some (vI (iN 0)), some (vI (iN 0)), none] [] (uL 20 0 ((fL c t l).filter (fun e => decide (fI c 26 e 3 = 1))) c, z) = _ from h2, bV_none, List.drop_zero]
  rfl
/-- which one is ahead -/
def aM (m : nM) (j x : Nat) : Bool := decide ((m 54 j ≠ 0 ∧ m 54 x = 0) ∨ (m 54 j = m 54 x ∧ m 68 j < m 68 x))
def cM (m : nM) (w a : Int32) (j : Nat) : Bool := decide (m 66 j = w ∧ m 67 j = a ∧ m 95 j = 0)
/-- the reference's next one at a place -/
theorem r205 {m : nM} {N : Nat} {w a : Int32} (hN : m 1 24 = iN N) (h40 : N ≤ 40) : ∀ c9 z, R1 xs nx 205 0 [some (vR 1 (some 0)), some (vI w), some (vI a), none, none, none, none] [] (c9, m, z) = some (.inl (some (vI (oI (nSel (cM m w a) (aM m) N 0 none)))), (c9, m, z)) := by
  intro c9 z
  have key : ∀ (n i : Nat) (b : Option Nat) (l5 l6 : Option nV), i + n = N → (∀ x, b = some x → x < N) → R1 xs nx 205 5 [some (vR 1 (some 0)), some (vI w), some (vI a), some (vI (oI b)), some (vI (iN i)), l5, l6] [] (c9, m, z) = some (.inl (some (vI (oI (nSel (cM m w a) (aM m) n i b)))), (c9, m, z)) := by
    intro n
    induction n with
    | zero =>
      intro i b l5 l6 e hb
      have hn : ¬ iN i < iN N := by rw [iN_lt (by omega) (by omega)]; omega
      rw [d_205_5]
      simp only [hN, hn, if_false]
      rfl
    | succ n ih =>
      intro i b l5 l6 e hb
      have hlt : iN i < iN N := (iN_lt (by omega) (by omega)).mpr (by omega)
      have hin : mIn (iN i) 40 = true := iN_in40 (by omega)
      have en : (iN i).toNatClampNeg = i := i32_nat (by omega)
      have st : R1 xs nx 205 5 [some (vR 1 (some 0)), some (vI w), some (vI a), some (vI (oI b)), some (vI (iN i)), l5, l6] [] (c9, m, z) = R1 xs nx 205 51 [some (vR 1 (some 0)), some (vI w), some (vI a), some (vI (oI b)), some (vI (iN i)), l5, l6] [(vI (if cM m w a i = true then 1 else 0))] (c9, m, z) := by
        rw [d_205_5]
        simp only [hN, hlt, hin, en, if_true]
        unfold cM
        by_cases q1 : m 66 i = w
        · rw [if_pos q1]
          by_cases q2 : m 67 i = a
          · rw [if_pos q2]
            by_cases q3 : m 95 i = 0
            · rw [if_pos q3, if_pos (decide_eq_true ⟨q1, q2, q3⟩)]
            · rw [if_neg q3, if_neg (fun z => q3 (of_decide_eq_true z).2.2), d_205_50]
          · rw [if_neg q2, if_neg (fun z => q2 (of_decide_eq_true z).2.1), d_205_50]
        · rw [if_neg q1, if_neg (fun z => q1 (of_decide_eq_true z).1), d_205_50]
      rw [st]
      by_cases hc : cM m w a i = true
      · rw [if_pos hc]
        cases b with
        | none =>
          rw [show oI none = (-1 : Int32) from rfl, d_205_51, if_pos rfl, d_205_118, d_205_119, if_neg n10, if_pos rfl, d_205_136, d_205_142, iN_add1]
          have := ih (i + 1) (some i) (some (vI 1)) (some (vI 0)) (by omega) (fun x hx => by cases hx; omega)
          simp only [nSel, hc, if_true]
          exact this
        | some x =>
          have hx := hb x rfl
          have xin : mIn (iN x) 40 = true := iN_in40 (by omega)
          have xn : (iN x).toNatClampNeg = x := i32_nat (by omega)
          have st2 : R1 xs nx 205 51 [some (vR 1 (some 0)), some (vI w), some (vI a), some (vI (iN x)), some (vI (iN i)), l5, l6] [(vI 1)] (c9, m, z) = R1 xs nx 205 119 [some (vR 1 (some 0)), some (vI w), some (vI a), some (vI (iN x)), some (vI (iN i)), some (vI 1), l6] [(vI (if aM m i x = true then 1 else 0))] (c9, m, z) := by
            have e82 : R1 xs nx 205 82 [some (vR 1 (some 0)), some (vI w), some (vI a), some (vI (iN x)), some (vI (iN i)), some (vI 1), l6] [] (c9, m, z) = R1 xs nx 205 119 [some (vR 1 (some 0)), some (vI w), some (vI a), some (vI (iN x)), some (vI (iN i)), some (vI 1), l6] [(vI (if m 54 i = m 54 x ∧ m 68 i < m 68 x then 1 else 0))] (c9, m, z) := by
              rw [d_205_82]
              simp only [hin, en, xin, xn, if_true]
              by_cases q1 : m 54 i = m 54 x
              · rw [if_pos q1]
                by_cases q2 : m 68 i < m 68 x
                · rw [if_pos q2, if_pos ⟨q1, q2⟩, d_205_114]
                · rw [if_neg q2, if_neg (fun z => q2 z.2), d_205_118]
              · rw [if_neg q1, if_neg (fun z => q1 z.1), d_205_118]
            rw [d_205_51, if_neg (iN_ne1 (by omega)), if_neg n10]
            simp only [hin, en, xin, xn, if_true]
            unfold aM
            by_cases q1 : m 54 i = 0
            · rw [if_pos q1, e82]
              by_cases q2 : m 54 i = m 54 x ∧ m 68 i < m 68 x
              · rw [if_pos q2, if_pos (decide_eq_true (Or.inr q2))]
              · rw [if_neg q2, if_neg (fun z => (of_decide_eq_true z).elim (fun y => y.1 q1) q2)]
            · rw [if_neg q1]
              by_cases q3 : m 54 x = 0
              · rw [if_pos q3, if_pos (decide_eq_true (Or.inl ⟨q1, q3⟩)), d_205_114]
              · rw [if_neg q3, e82]
                by_cases q2 : m 54 i = m 54 x ∧ m 68 i < m 68 x
                · rw [if_pos q2, if_pos (decide_eq_true (Or.inr q2))]
                · rw [if_neg q2, if_neg (fun z => (of_decide_eq_true z).elim (fun y => q3 y.2) q2)]
          rw [show oI (some x) = iN x from rfl, st2, d_205_119, if_neg n10, if_neg (iN_ne1 (by omega))]
          by_cases ha : aM m i x = true
          · rw [if_pos ha, if_neg n10, d_205_136, d_205_142, iN_add1]
            have := ih (i + 1) (some i) (some (vI 1)) (some (vI 1)) (by omega) (fun x hx => by cases hx; omega)
            simp only [nSel, hc, ha, if_true]
            exact this
          · rw [if_neg ha, if_pos rfl, d_205_141, d_205_142, iN_add1]
            have := ih (i + 1) (some x) (some (vI 1)) (some (vI 0)) (by omega) hb
            simp only [nSel, hc, ha, if_true, Bool.false_eq_true, if_false]
            exact this
      · rw [if_neg hc]
        have st3 : ∃ l6', R1 xs nx 205 51 [some (vR 1 (some 0)), some (vI w), some (vI a), some (vI (oI b)), some (vI (iN i)), l5, l6] [(vI 0)] (c9, m, z) = R1 xs nx 205 5 [some (vR 1 (some 0)), some (vI w), some (vI a), some (vI (oI b)), some (vI (iN (i + 1))), some (vI 0), l6'] [] (c9, m, z) := by
          refine ⟨some (vI 0), ?_⟩
          rw [d_205_51]
          by_cases q : oI b = -1
          · rw [if_pos q, d_205_118, d_205_119, if_pos rfl, d_205_141, d_205_142, iN_add1]
          · rw [if_neg q, if_pos rfl, d_205_118, d_205_119, if_pos rfl, d_205_141, d_205_142, iN_add1]
        obtain ⟨l6', st3⟩ := st3
        rw [st3]
        have := ih (i + 1) b (some (vI 0)) l6' (by omega) hb
        simp only [nSel, hc, Bool.false_eq_true, if_false]
        exact this
  rw [d_205_0]
  exact key N 0 none none none (Nat.zero_add _) (fun x hx => by cases hx)
/-- the order of a line, express ones first -/
theorem exL_spec {i w t l : Nat} {a : Int32} {c : nC} {m : nM} (hJ : nJ κ i c m) (hL : nLin (fN c 26) (m 66) (m 67) (m 68) (iN w) a (fL c t l)) : (∀ x, x ∈ exL c (fL c t l) ↔ x < fN c 26 ∧ m 66 x = iN w ∧ m 67 x = a) ∧ (exL c (fL c t l)).Nodup ∧ (exL c (fL c t l)).Pairwise (fun j x => aM m j x = true ∧ aM m x j = false) ∧ (exL c (fL c t l)).length = (fL c t l).length := by
  obtain ⟨g1, g2⟩ := hL
  have nd := nLin_nd ⟨g1, g2⟩
  have ex : ∀ x, x ∈ fL c t l → fI c 26 x 3 = m 54 x ∧ nBo (m 54 x) := fun x hx => by
    have := hJ.2.2.2.2.2.1 x ((g1 x).mp hx).1
    exact this.2.2.2.2.2.1
  have lt : ∀ j x : Nat, m 68 j < m 68 x → ¬ m 68 x < m 68 j := fun j x h h' => by
    rw [Int32.lt_iff_toInt_lt] at h h'
    omega
  refine ⟨fun x => ?_, ?_, ?_, ?_⟩
  · unfold exL
    rw [List.mem_append, List.mem_filter, List.mem_filter, g1 x]
    constructor
    · rintro (h | h)
      · exact h.1
      · exact h.1
    · intro h
      rcases (ex x ((g1 x).mpr h)).2 with y | y
      · exact Or.inr ⟨h, decide_eq_true (by rw [(ex x ((g1 x).mpr h)).1]; exact y)⟩
      · exact Or.inl ⟨h, decide_eq_true (by rw [(ex x ((g1 x).mpr h)).1]; exact y)⟩
  · unfold exL
    rw [List.nodup_append]
    refine ⟨nd.sublist List.filter_sublist, nd.sublist List.filter_sublist, fun x hx y hy => ?_⟩
    intro z
    subst z
    have h1 := of_decide_eq_true (List.mem_filter.mp hx).2
    have h0 := of_decide_eq_true (List.mem_filter.mp hy).2
    rw [h1] at h0
    exact n10 h0
  · unfold exL
    have hs : ∀ (b : Int32), ((fL c t l).filter (fun e => decide (fI c 26 e 3 = b))).Pairwise (fun j x => aM m j x = true ∧ aM m x j = false) := by
      intro b
      refine List.Pairwise.imp_of_mem ?_ (g2.sublist List.filter_sublist)
      intro j x hj hx hjx
      obtain ⟨j1, j2⟩ := List.mem_filter.mp hj
      obtain ⟨x1, x2⟩ := List.mem_filter.mp hx
      have j2 := of_decide_eq_true j2
      have x2 := of_decide_eq_true x2
      rw [(ex j j1).1] at j2
      rw [(ex x x1).1] at x2
      refine ⟨decide_eq_true (Or.inr ⟨by rw [j2, x2], hjx⟩), decide_eq_false (fun z => ?_)⟩
      rcases z with z | z
      · rw [j2, x2] at z; exact z.1 z.2
      · exact lt j x hjx z.2
    rw [List.pairwise_append]
    refine ⟨hs 1, hs 0, fun j hj x hx => ?_⟩
    obtain ⟨j1, j2⟩ := List.mem_filter.mp hj
    obtain ⟨x1, x2⟩ := List.mem_filter.mp hx
    have j2 := of_decide_eq_true j2
    have x2 := of_decide_eq_true x2
    rw [(ex j j1).1] at j2
    rw [(ex x x1).1] at x2
    refine ⟨decide_eq_true (Or.inl ⟨by rw [j2]; decide, x2⟩), decide_eq_false (fun z => ?_)⟩
    rw [j2, x2] at z
    rcases z with z | z
    · exact z.1 rfl
    · exact absurd z.1 (by decide)
  · unfold exL
    rw [List.length_append]
    have key : ∀ L : List Nat, (∀ x, x ∈ L → nBo (fI c 26 x 3)) → (L.filter (fun e => decide (fI c 26 e 3 = 1))).length + (L.filter (fun e => decide (fI c 26 e 3 = 0))).length = L.length := by
      intro L
      induction L with
      | nil => intro _; rfl
      | cons x L ih =>
        intro h
        have := ih (fun y hy => h y (List.mem_cons_of_mem _ hy))
        rcases h x (List.mem_cons_self ..) with q | q
        · rw [List.filter_cons, List.filter_cons, if_neg (by rw [q]; decide), if_pos (decide_eq_true q), List.length_cons, List.length_cons]
          omega
        · rw [List.filter_cons, List.filter_cons, if_pos (decide_eq_true q), if_neg (by rw [q]; decide), List.length_cons, List.length_cons]
          omega
    exact key _ (fun x hx => by rw [(ex x hx).1]; exact (ex x hx).2)
/-- the next one is the first of the order -/
theorem sel_exL {N e : Nat} {w a : Int32} {m : nM} {Q : List Nat} (hm : ∀ x, x < N → (cM m w a x = true ↔ x ∈ e :: Q)) (hN : ∀ x, x ∈ e :: Q → x < N) (hp : (e :: Q).Pairwise (fun j x => aM m j x = true ∧ aM m x j = false)) : nSel (cM m w a) (aM m) N 0 none = some e := by
  have he := hN e (List.mem_cons_self ..)
  refine nSel_min he ((hm e he).mpr (List.mem_cons_self ..)) (fun j hj hc hne => ?_)
  rcases List.mem_cons.mp ((hm j hj).mp hc) with z | z
  · exact absurd z hne
  · exact (List.pairwise_cons.mp hp).1 j z
theorem sel_nil {N : Nat} {w a : Int32} {m : nM} (hm : ∀ x, x < N → ¬ cM m w a x = true) : nSel (cM m w a) (aM m) N 0 none = none := by
  rcases (nSel_spec (can := cM m w a) (ahead := aM m) N 0 none).1 with h | ⟨k, -, -, k2, k3⟩
  · exact h
  · exact absurd k3 (hm k (by omega))
end OQL
end KAP
