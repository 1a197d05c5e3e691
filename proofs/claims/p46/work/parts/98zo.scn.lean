/-! ===== areScans: made by wip/p46/gen2/mk98zo.py ===== -/
/-- what a scan tells of a parcel's place -/
def tDp (c : nC) (b : Nat) : Int32 := if tOf (fI c 25 b 3) = 1 then iN (fX c 25 b 1) else -1
def tLs (c : nC) (p k : Nat) : Int32 := match (((fL c 19 0).take k).filter fun b => decide (fI c 25 b 0 = iN p)).getLast? with
  | none => -1
  | some b => tDp c b
/-- the scans of a parcel that are still to come -/
def sR (c : nC) (its k : Nat) : List Nat := ((fL c 19 0).drop k).filter fun b => decide (fI c 25 b 0 = iN its)
theorem tLs_s {c : nC} {p k b : Nat} (hb : (fL c 19 0)[k]? = some b) : tLs c p (k + 1) = if fI c 25 b 0 = iN p then tDp c b else tLs c p k := by
  obtain ⟨hk, e⟩ := List.getElem?_eq_some_iff.mp hb
  have e1 : ((fL c 19 0).take (k + 1)).filter (fun b => decide (fI c 25 b 0 = iN p)) = ((fL c 19 0).take k).filter (fun b => decide (fI c 25 b 0 = iN p)) ++ if fI c 25 b 0 = iN p then [b] else [] := by
    rw [take1 hk, List.filter_append, List.filter_cons, e, List.filter_nil]
    by_cases h : fI c 25 b 0 = iN p
    · rw [if_pos h, if_pos (decide_eq_true h)]
    · rw [if_neg h, if_neg (fun z => h (of_decide_eq_true z))]
  unfold tLs
  rw [e1]
  by_cases h : fI c 25 b 0 = iN p
  · rw [if_pos h, if_pos h, List.getLast?_concat]
  · rw [if_neg h, if_neg h, List.append_nil]
theorem sR_s {c : nC} {its k b : Nat} (hb : (fL c 19 0)[k]? = some b) : sR c its k = if fI c 25 b 0 = iN its then b :: sR c its (k + 1) else sR c its (k + 1) := by
  obtain ⟨hk, e⟩ := List.getElem?_eq_some_iff.mp hb
  unfold sR
  rw [List.drop_eq_getElem_cons hk, List.filter_cons, e]
  by_cases h : fI c 25 b 0 = iN its
  · rw [if_pos h, if_pos (decide_eq_true h)]
  · rw [if_neg h, if_neg (fun z => h (of_decide_eq_true z))]
theorem sR_e {c : nC} {its k : Nat} (hk : (fL c 19 0).length ≤ k) : sR c its k = [] := by
  unfold sR
  rw [List.drop_eq_nil_of_le hk]
  rfl
/-- the law's reading of a parcel's way so far -/
def scI (c : nC) (its k : Nat) (o : Option Nat) (a7 a8 a9 a10 : Int32) : Prop := ∃ st, st ≤ k ∧ a9 = iN st ∧
  (match o with
    | none => a7 = -1 ∧ st = 0
    | some b => a7 = iN (fX c 25 b 1) ∧ a8 = fI c 25 b 2 ∧ 1 ≤ st ∧ ∃ j, j < k ∧ (fL c 19 0)[j]? = some b) ∧
  (∀ p, st ≤ p → wy ((sR c its 0).map fun e => fX c 25 e 1) none 0 p = wy ((sR c its k).map fun e => fX c 25 e 1) (o.map fun e => fX c 25 e 1) st p) ∧
  ((a10 = -1 ∧ wrF c (sR c its 0) none 0 = wrF c (sR c its k) o (st - 1)) ∨ (¬ a10 < 0 ∧ wrF c (sR c its 0) none 0 = a10))
theorem kind10 {x : Int32} (h : nIn x 0 9) (A B : Option nOut) : (if x < 2 then A else if x = 3 then A else if x = 7 then A else if x = 9 then A else B) = if tOf x = 1 then A else B := by
  obtain ⟨K, -, h1, rfl⟩ := h
  obtain rfl | rfl | rfl | rfl | rfl | rfl | rfl | rfl | rfl | rfl : K = 0 ∨ K = 1 ∨ K = 2 ∨ K = 3 ∨ K = 4 ∨ K = 5 ∨ K = 6 ∨ K = 7 ∨ K = 8 ∨ K = 9 := by omega
  · rw [if_pos (show iN 0 < (2 : Int32) by decide), if_pos (show tOf (iN 0) = 1 by decide)]
  · rw [if_pos (show iN 1 < (2 : Int32) by decide), if_pos (show tOf (iN 1) = 1 by decide)]
  · rw [if_neg (show ¬ iN 2 < (2 : Int32) by decide), if_neg (show ¬ iN 2 = (3 : Int32) by decide), if_neg (show ¬ iN 2 = (7 : Int32) by decide), if_neg (show ¬ iN 2 = (9 : Int32) by decide), if_neg (show ¬ tOf (iN 2) = 1 by decide)]
  · rw [if_neg (show ¬ iN 3 < (2 : Int32) by decide), if_pos (show iN 3 = (3 : Int32) by decide), if_pos (show tOf (iN 3) = 1 by decide)]
  · rw [if_neg (show ¬ iN 4 < (2 : Int32) by decide), if_neg (show ¬ iN 4 = (3 : Int32) by decide), if_neg (show ¬ iN 4 = (7 : Int32) by decide), if_neg (show ¬ iN 4 = (9 : Int32) by decide), if_neg (show ¬ tOf (iN 4) = 1 by decide)]
  · rw [if_neg (show ¬ iN 5 < (2 : Int32) by decide), if_neg (show ¬ iN 5 = (3 : Int32) by decide), if_neg (show ¬ iN 5 = (7 : Int32) by decide), if_neg (show ¬ iN 5 = (9 : Int32) by decide), if_neg (show ¬ tOf (iN 5) = 1 by decide)]
  · rw [if_neg (show ¬ iN 6 < (2 : Int32) by decide), if_neg (show ¬ iN 6 = (3 : Int32) by decide), if_neg (show ¬ iN 6 = (7 : Int32) by decide), if_neg (show ¬ iN 6 = (9 : Int32) by decide), if_neg (show ¬ tOf (iN 6) = 1 by decide)]
  · rw [if_neg (show ¬ iN 7 < (2 : Int32) by decide), if_neg (show ¬ iN 7 = (3 : Int32) by decide), if_pos (show iN 7 = (7 : Int32) by decide), if_pos (show tOf (iN 7) = 1 by decide)]
  · rw [if_neg (show ¬ iN 8 < (2 : Int32) by decide), if_neg (show ¬ iN 8 = (3 : Int32) by decide), if_neg (show ¬ iN 8 = (7 : Int32) by decide), if_neg (show ¬ iN 8 = (9 : Int32) by decide), if_neg (show ¬ tOf (iN 8) = 1 by decide)]
  · rw [if_neg (show ¬ iN 9 < (2 : Int32) by decide), if_neg (show ¬ iN 9 = (3 : Int32) by decide), if_neg (show ¬ iN 9 = (7 : Int32) by decide), if_pos (show iN 9 = (9 : Int32) by decide), if_pos (show tOf (iN 9) = 1 by decide)]
theorem hasL_ok {c : nC} {A B t : Nat} : hasL c A B t = true ↔ okF c A B (iN t) ≠ none := by
  unfold hasL okF
  rw [decide_eq_true_eq]
  constructor
  · rintro ⟨l, l1, l2⟩ z
    have := (nFst_none _ _).mp z l (Nat.zero_le _) (by omega)
    exact absurd l2 (of_decide_eq_false this)
  · intro h
    cases e : nFst (fun l => decide (fX c 23 l 1 = A ∧ fX c 23 l 2 = B ∧ ¬ iN t < fI c 23 l 3)) (fN c 23) 0 with
    | none => exact absurd e h
    | some l =>
      obtain ⟨-, l1, l2⟩ := nFst_some _ _ e
      exact ⟨l, by omega, of_decide_eq_true l2⟩
section KAP
variable {κ : kP}
section SCN
variable {xs : Nat → Int32} {nx : Nat} {i : Nat} {c : nC} {m a : nM} {q : Nat} {J : Nat → Int64}
/-- one scan -/
theorem scS (hJ : nJ κ i c m) (hA : pA κ a) (hc : a 80 5 = m 1 0) {its k : Nat} (hits : its ≤ 40) (hk : k < (fL c 19 0).length) {o : Option Nat} {a7 a8 a9 a10 a11 : Int32} (hI : scI c its k o a7 a8 a9 a10) (hck : (k = 0 ∧ a11 = 0) ∨ ∃ j, j + 1 = k ∧ a11 = m 93 j) (l13 l14 l15 : Option nV) :
    ∃ (o' : Option Nat) (b7 b8 b9 b10 : Int32) (r13 r14 r15 : Option nV) (a2 : nM), (∀ t, t ≠ 2 → a2 t = a t) ∧ (∀ p, p < 64 → a2 2 p = if m 91 k = iN p then tDp c (fL c 19 0)[k] else a 2 p) ∧ scI c its (k + 1) o' b7 b8 b9 b10 ∧
    R1 xs nx 6 93 [some (vR 0 (some 0)), some (vR 35 (some 0)), some (vR 80 (some 0)), some (vI (iN its)), some (vR 2 (some 0)), some (vI (iN (fL c 19 0).length)), some (vI 1), some (vI a7), some (vI a8), some (vI a9), some (vI a10), some (vI a11), some (vI (iN k)), l13, l14, l15] [] (c, a, q, J) = R1 xs nx 6 93 [some (vR 0 (some 0)), some (vR 35 (some 0)), some (vR 80 (some 0)), some (vI (iN its)), some (vR 2 (some 0)), some (vI (iN (fL c 19 0).length)), some (vI 1), some (vI b7), some (vI b8), some (vI b9), some (vI b10), some (vI (m 93 k)), some (vI (iN (k + 1))), r13, r14, r15] [] (c, a2, q, J) := by
  have h26 := hJ.1.2.2.1.1
  have h400 := (nJ_69 hJ).2
  have g2 : a 80 2 = iN (fN c 26) := by rw [hA.1.2.2.1, (nJ_k hJ).1.2.2.1]
  obtain ⟨b, hbe⟩ : ∃ b, b = (fL c 19 0)[k] := ⟨_, rfl⟩
  have hb : (fL c 19 0)[k]? = some b := by rw [hbe]; exact List.getElem?_eq_getElem hk
  rw [← hbe]
  obtain ⟨x1, x2, x3, x4, x5, x6, x7⟩ := bok_at hJ hb
  obtain ⟨-, -, -, -, ⟨-, -, x8⟩, -⟩ := hJ.2.2.2.2.2.2.2.2.2.2.2.2.2.1.1 k b hb
  obtain ⟨p, hp, ep⟩ := hJ.2.2.2.2.2.2.2.2.2.2.2.2.2.1.2.2 b (List.mem_of_getElem? hb)
  have e91 : m 91 k = iN p := by rw [← x1]; exact ep
  have Q0 : R1 xs nx 158 0 [some (vR 0 (some 0)), some (vI (iN k)), some (vI 0), none] [] (c, a, q, J) = nVl (m 91 k) c (a, q, J) := q158 (a, q, J) hJ hk (p := 0) (by decide)
  have Q1 : R1 xs nx 158 0 [some (vR 0 (some 0)), some (vI (iN k)), some (vI 1), none] [] (c, a, q, J) = nVl (m 92 k) c (a, q, J) := q158 (a, q, J) hJ hk (p := 1) (by decide)
  have Q2 : R1 xs nx 158 0 [some (vR 0 (some 0)), some (vI (iN k)), some (vI 2), none] [] (c, a, q, J) = nVl (m 93 k) c (a, q, J) := q158 (a, q, J) hJ hk (p := 2) (by decide)
  have Q3 : R1 xs nx 158 0 [some (vR 0 (some 0)), some (vI (iN k)), some (vI 3), none] [] (c, a, q, J) = nVl (m 94 k) c (a, q, J) := q158 (a, q, J) hJ hk (p := 3) (by decide)
  have hr : ¬ m 93 k < a11 := by
    obtain ⟨y, -, hy, ey⟩ := x6
    rcases hck with ⟨-, e⟩ | ⟨j, e1, e2⟩
    · rw [e, ey]; exact iN_pos (by omega)
    · have := nJ_bko hJ j k (by omega) hk
      rw [e2]
      exact Int32.not_lt.mpr this
  have hr2 : ¬ m 1 0 < m 93 k := Int32.not_lt.mpr x8
  have hr3 : m 94 k < 10 := by
    obtain ⟨y, -, hy, ey⟩ := x7
    rw [ey]
    exact (iN_lt (b := 10) (by omega) (by omega)).mpr (by omega)
  have hin : mIn (m 91 k) 64 = true := by rw [e91]; exact iN_in (by omega) (by decide)
  have en : (m 91 k).toNatClampNeg = p := by rw [e91]; exact i32_nat (by omega)
  have et : ∀ j, j < 64 → uM 2 p (tDp c b) a 2 j = if m 91 k = iN j then tDp c b else a 2 j := by
    intro j hj
    rw [uM_at, e91]
    by_cases e : j = p
    · rw [if_pos e, if_pos (by rw [e])]
    · rw [if_neg e, if_neg (fun z => e ((iN_inj (by omega) (by omega)).mp z).symm)]
  have st : R1 xs nx 6 93 [some (vR 0 (some 0)), some (vR 35 (some 0)), some (vR 80 (some 0)), some (vI (iN its)), some (vR 2 (some 0)), some (vI (iN (fL c 19 0).length)), some (vI 1), some (vI a7), some (vI a8), some (vI a9), some (vI a10), some (vI a11), some (vI (iN k)), l13, l14, l15] [] (c, a, q, J) = R1 xs nx 6 229 [some (vR 0 (some 0)), some (vR 35 (some 0)), some (vR 80 (some 0)), some (vI (iN its)), some (vR 2 (some 0)), some (vI (iN (fL c 19 0).length)), some (vI 1), some (vI a7), some (vI a8), some (vI a9), some (vI a10), some (vI (m 93 k)), some (vI (iN k)), some (vI (m 91 k)), some (vI (m 92 k)), some (vI (m 94 k))] [vI (tDp c b), vI (m 91 k), vR 2 (some 0)] (c, a, q, J) := by
    rw [d_6_93, if_pos ((iN_lt (by omega) (by omega)).mpr hk), if_neg n10, Q0, bI_Vl, Q1, bI_Vl, if_pos i62]
    dsimp only
    simp only [t62, g2]
    rw [if_pos (show m 91 k < iN (fN c 26) by rw [e91]; exact (iN_lt (by omega) (by omega)).mpr hp), Q2, bI_Vl, if_neg hr, Q2, bI_Vl, if_pos i65]
    dsimp only
    simp only [t65, hc]
    rw [if_neg hr2, Q3, bI_Vl, if_pos hr3, d_6_173, Q2, bI_Vl, Q3, bI_Vl, kind10 x7]
    unfold tDp
    rw [x5, ← x3]
    by_cases h : tOf (m 94 k) = 1
    · rw [if_pos h, if_pos h, d_6_223]
    · rw [if_neg h, if_neg h]
  obtain ⟨s, s1, s2, s3, s4, s5⟩ := hI
  have nx1 : R1 xs nx 6 229 [some (vR 0 (some 0)), some (vR 35 (some 0)), some (vR 80 (some 0)), some (vI (iN its)), some (vR 2 (some 0)), some (vI (iN (fL c 19 0).length)), some (vI 1), some (vI a7), some (vI a8), some (vI a9), some (vI a10), some (vI (m 93 k)), some (vI (iN k)), some (vI (m 91 k)), some (vI (m 92 k)), some (vI (m 94 k))] [vI (tDp c b), vI (m 91 k), vR 2 (some 0)] (c, a, q, J) = _ := d_6_229 _ _ _ _ _ _ _ _ _ _ _ _ _ _ _
  rw [if_pos hin] at nx1
  dsimp only at nx1
  rw [en] at nx1
  by_cases hp2 : p = its
  · subst hp2
    have eR : sR c p k = b :: sR c p (k + 1) := by rw [sR_s hb, if_pos ep]
    rw [if_pos e91] at nx1
    by_cases h14 : m 92 k = a7
    · rw [if_pos h14, d_6_308, d_6_316, iN_add1] at nx1
      cases o with
      | none =>
        exfalso
        have s3 : a7 = -1 ∧ s = 0 := s3
        rw [s3.1, x3] at h14
        exact iN_ne1 (by omega) h14
      | some b0 =>
        obtain ⟨y1, y2, y3, j, y4, y5⟩ : a7 = iN (fX c 25 b0 1) ∧ a8 = fI c 25 b0 2 ∧ 1 ≤ s ∧ ∃ j, j < k ∧ (fL c 19 0)[j]? = some b0 := s3
        obtain ⟨-, y6, -⟩ := bok_at hJ y5
        have ed : fX c 25 b 1 = fX c 25 b0 1 := (iN_inj (by omega) (by omega)).mp (x3.symm.trans (h14.trans y1))
        refine ⟨some b, m 92 k, m 93 k, a9, a10, _, _, _, uM 2 p (tDp c b) a, fun t ht => uM_ne ht, et, ⟨s, by omega, s2, ⟨x3, x4.symm, y3, k, Nat.lt_succ_self k, hb⟩, fun x hx => ?_, ?_⟩, st.trans nx1⟩
        · rw [s4 x hx, eR, List.map_cons]
          simp only [wy, Option.map_some]
          rw [if_pos (by rw [ed]), ed]
        · rcases s5 with ⟨z1, z2⟩ | z
          · refine Or.inl ⟨z1, ?_⟩
            rw [z2, eR]
            simp only [wrF]
            rw [if_pos ed.symm]
          · exact Or.inr z
    · rw [if_neg h14, if_neg n10, s2, q159 _ hJ hp (show s < 2 ^ 31 by omega), bI_Vl] at nx1
      have no : ¬ some (fX c 25 b 1) = (o.map fun e => fX c 25 e 1) := by
        cases o with
        | none => exact fun z => by cases z
        | some b0 =>
          obtain ⟨y1, -⟩ : a7 = iN (fX c 25 b0 1) ∧ _ := s3
          intro z
          have z := Option.some.inj z
          exact h14 (by rw [x3, y1, z])
      have hwy : ∀ x, s ≤ x → wy ((fL c 10 p).map fun e => fX c 25 e 1) none 0 x = if s = x then iN (fX c 25 b 1) else wy ((sR c p (k + 1)).map fun e => fX c 25 e 1) (some (fX c 25 b 1)) (s + 1) x := by
        intro x hx
        have e0 : fL c 10 p = sR c p 0 := by rw [bok_10 hJ hp]; rfl
        rw [e0, s4 x hx, eR, List.map_cons]
        simp only [wy]
        rw [if_neg no]
      rw [hwy s (Nat.le_refl _), if_pos rfl, if_pos x3.symm] at nx1
      have key : ∀ (b10 : Int32), ((b10 = -1 ∧ wrF c (sR c p 0) none 0 = wrF c (sR c p (k + 1)) (some b) s) ∨ (¬ b10 < 0 ∧ wrF c (sR c p 0) none 0 = b10)) →
          R1 xs nx 6 265 [some (vR 0 (some 0)), some (vR 35 (some 0)), some (vR 80 (some 0)), some (vI (iN p)), some (vR 2 (some 0)), some (vI (iN (fL c 19 0).length)), some (vI 1), some (vI a7), some (vI a8), some (vI (iN s)), some (vI a10), some (vI (m 93 k)), some (vI (iN k)), some (vI (m 91 k)), some (vI (m 92 k)), some (vI (m 94 k))] [vI 1] (c, uM 2 p (tDp c b) a, q, J) = R1 xs nx 6 303 [some (vR 0 (some 0)), some (vR 35 (some 0)), some (vR 80 (some 0)), some (vI (iN p)), some (vR 2 (some 0)), some (vI (iN (fL c 19 0).length)), some (vI 1), some (vI a7), some (vI a8), some (vI (iN s)), some (vI a10), some (vI (m 93 k)), some (vI (iN k)), some (vI (m 91 k)), some (vI (m 92 k)), some (vI (m 94 k))] [vI b10] (c, uM 2 p (tDp c b) a, q, J) →
          ∃ (o' : Option Nat) (b7 b8 b9 b10 : Int32) (r13 r14 r15 : Option nV) (a2 : nM), (∀ t, t ≠ 2 → a2 t = a t) ∧ (∀ p, p < 64 → a2 2 p = if m 91 k = iN p then tDp c b else a 2 p) ∧ scI c p (k + 1) o' b7 b8 b9 b10 ∧
          R1 xs nx 6 93 [some (vR 0 (some 0)), some (vR 35 (some 0)), some (vR 80 (some 0)), some (vI (iN p)), some (vR 2 (some 0)), some (vI (iN (fL c 19 0).length)), some (vI 1), some (vI a7), some (vI a8), some (vI a9), some (vI a10), some (vI a11), some (vI (iN k)), l13, l14, l15] [] (c, a, q, J) = R1 xs nx 6 93 [some (vR 0 (some 0)), some (vR 35 (some 0)), some (vR 80 (some 0)), some (vI (iN p)), some (vR 2 (some 0)), some (vI (iN (fL c 19 0).length)), some (vI 1), some (vI b7), some (vI b8), some (vI b9), some (vI b10), some (vI (m 93 k)), some (vI (iN (k + 1))), r13, r14, r15] [] (c, a2, q, J) := by
        intro b10 hb10 hrun
        refine ⟨some b, m 92 k, m 93 k, iN (s + 1), b10, some (vI (m 91 k)), some (vI (m 92 k)), some (vI (m 94 k)), uM 2 p (tDp c b) a, fun t ht => uM_ne ht, et, ⟨s + 1, by omega, rfl, ⟨x3, x4.symm, by omega, k, Nat.lt_succ_self k, hb⟩, fun x hx => ?_, hb10⟩, ?_⟩
        · have e0 : fL c 10 p = sR c p 0 := by rw [bok_10 hJ hp]; rfl
          rw [← e0, hwy x (by omega), if_neg (by omega)]
          rfl
        · rw [st, s2, nx1, hrun, d_6_303, d_6_308, d_6_316, iN_add1, iN_add1]
      cases o with
      | none =>
        obtain ⟨y1, y2⟩ : a7 = -1 ∧ s = 0 := s3
        refine key a10 ?_ ?_
        · rcases s5 with ⟨z1, z2⟩ | z
          · refine Or.inl ⟨z1, ?_⟩
            rw [z2, eR, y2]
            rfl
          · exact Or.inr z
        · rw [d_6_265, if_pos (by rw [y1]; decide), d_6_301]
      | some b0 =>
        obtain ⟨y1, y2, y3, j, y4, y5⟩ : a7 = iN (fX c 25 b0 1) ∧ a8 = fI c 25 b0 2 ∧ 1 ≤ s ∧ ∃ j, j < k ∧ (fL c 19 0)[j]? = some b0 := s3
        obtain ⟨-, y6, -, y7, -, y8, -⟩ := bok_at hJ y5
        have hle := nJ_bko hJ j k y4 hk
        obtain ⟨t1, -, ht1, et1⟩ := y8
        obtain ⟨t2, -, ht2, et2⟩ := x6
        rw [et1, et2, Int32.le_iff_toInt_le, iN_toInt (by omega), iN_toInt (by omega)] at hle
        have edf : m 93 k - a8 = iN (t2 - t1) := by
          rw [y2, y7, et1, et2]
          exact i32_sub (by omega) (by omega)
        have edf2 : fI c 25 b 2 - fI c 25 b0 2 = iN (t2 - t1) := by rw [x4, ← y2]; exact edf
        have nd : ¬ fX c 25 b0 1 = fX c 25 b 1 := fun z => no (by rw [← z]; rfl)
        rcases s5 with ⟨z1, z2⟩ | ⟨z1, z2⟩
        · rw [eR] at z2
          simp only [wrF] at z2
          rw [if_neg nd, edf2] at z2
          have hl := lane5 (xs := xs) (nx := nx) (a := uM 2 p (tDp c b) a) hJ (pA_2 hA fun t ht => uM_ne ht) y6 x2 (show t2 - t1 < 100000 by omega) (q, J)
          by_cases hq : hasL c (fX c 25 b0 1) (fX c 25 b 1) (t2 - t1) = true
          · refine key a10 (Or.inl ⟨z1, ?_⟩) ?_
            · rw [z2]
              have hne := hasL_ok.mp hq
              revert hne
              cases okF c (fX c 25 b0 1) (fX c 25 b 1) (iN (t2 - t1)) with
              | none => exact fun w => absurd rfl w
              | some y =>
                intro _
                rw [show s - 1 + 1 = s by omega]
            · rw [d_6_265, if_neg (by rw [y1]; exact iN_pos (by omega)), if_pos (show a10 < 0 by rw [z1]; decide), edf, y1, x3, hl, bI_some, if_pos hq, if_neg n10, d_6_301]
          · refine key (iN s - 1) (Or.inr ⟨?_, ?_⟩) ?_
            · rw [show iN s - 1 = iN (s - 1) from i32_sub (b := 1) (by omega) (by omega)]
              exact iN_pos (by omega)
            · rw [z2]
              have hne : okF c (fX c 25 b0 1) (fX c 25 b 1) (iN (t2 - t1)) = none := by
                cases e : okF c (fX c 25 b0 1) (fX c 25 b 1) (iN (t2 - t1)) with
                | none => rfl
                | some y => exact absurd (hasL_ok.mpr (by rw [e]; exact fun w => by cases w)) hq
              rw [hne]
              exact (i32_sub (b := 1) (by omega) (by omega)).symm
            · rw [d_6_265, if_neg (by rw [y1]; exact iN_pos (by omega)), if_pos (show a10 < 0 by rw [z1]; decide), edf, y1, x3, hl, bI_some, if_neg hq, if_pos rfl]
        · refine key a10 (Or.inr ⟨z1, z2⟩) ?_
          rw [d_6_265, if_neg (by rw [y1]; exact iN_pos (by omega)), if_neg z1, d_6_301]
  · have eR : sR c its k = sR c its (k + 1) := by rw [sR_s hb, if_neg (by rw [ep]; exact fun z => hp2 ((iN_inj (by omega) (by omega)).mp z))]
    rw [if_neg (by rw [e91]; exact fun z => hp2 ((iN_inj (by omega) (by omega)).mp z)), d_6_316, iN_add1] at nx1
    refine ⟨o, a7, a8, a9, a10, _, _, _, uM 2 p (tDp c b) a, fun t ht => uM_ne ht, et, ⟨s, by omega, s2, ?_, fun x hx => by rw [s4 x hx, eR], by rw [eR] at s5; exact s5⟩, st.trans nx1⟩
    cases o with
    | none => exact s3
    | some b0 =>
      obtain ⟨y1, y2, y3, j, y4, y5⟩ : a7 = iN (fX c 25 b0 1) ∧ a8 = fI c 25 b0 2 ∧ 1 ≤ s ∧ ∃ j, j < k ∧ (fL c 19 0)[j]? = some b0 := s3
      exact ⟨y1, y2, y3, j, by omega, y5⟩
/-- all scans -/
theorem scLo (hJ : nJ κ i c m) (hc : ∀ a' : nM, (∀ t, t ≠ 2 → a' t = a t) → pA κ a' ∧ a' 80 5 = m 1 0) {its : Nat} (hits : its ≤ 40) : ∀ (n k : Nat) (a1 : nM) (o : Option Nat) (a7 a8 a9 a10 a11 : Int32) (l13 l14 l15 : Option nV), k + n = (fL c 19 0).length → (∀ t, t ≠ 2 → a1 t = a t) → (∀ p, p < 64 → a1 2 p = tLs c p k) → scI c its k o a7 a8 a9 a10 → ((k = 0 ∧ a11 = 0) ∨ ∃ j, j + 1 = k ∧ a11 = m 93 j) →
    ∃ (o' : Option Nat) (b7 b8 b9 b10 b11 : Int32) (r13 r14 r15 : Option nV) (a2 : nM), (∀ t, t ≠ 2 → a2 t = a t) ∧ (∀ p, p < 64 → a2 2 p = tLs c p (fL c 19 0).length) ∧ scI c its (fL c 19 0).length o' b7 b8 b9 b10 ∧
    R1 xs nx 6 93 [some (vR 0 (some 0)), some (vR 35 (some 0)), some (vR 80 (some 0)), some (vI (iN its)), some (vR 2 (some 0)), some (vI (iN (fL c 19 0).length)), some (vI 1), some (vI a7), some (vI a8), some (vI a9), some (vI a10), some (vI a11), some (vI (iN k)), l13, l14, l15] [] (c, a1, q, J) = R1 xs nx 6 322 [some (vR 0 (some 0)), some (vR 35 (some 0)), some (vR 80 (some 0)), some (vI (iN its)), some (vR 2 (some 0)), some (vI (iN (fL c 19 0).length)), some (vI 1), some (vI b7), some (vI b8), some (vI b9), some (vI b10), some (vI b11), some (vI (iN (fL c 19 0).length)), r13, r14, r15] [] (c, a2, q, J) := by
  have h400 := (nJ_69 hJ).2
  intro n
  induction n with
  | zero =>
    intro k a1 o a7 a8 a9 a10 a11 l13 l14 l15 e h1 h2 h3 h4
    have ek : k = (fL c 19 0).length := by omega
    subst ek
    refine ⟨o, a7, a8, a9, a10, a11, l13, l14, l15, a1, h1, h2, h3, ?_⟩
    rw [d_6_93, if_neg (iN_nlt (by omega) (by omega) (by omega))]
  | succ n ih =>
    intro k a1 o a7 a8 a9 a10 a11 l13 l14 l15 e h1 h2 h3 h4
    have hk : k < (fL c 19 0).length := by omega
    obtain ⟨hA1, hc1⟩ := hc a1 h1
    obtain ⟨o1, b7, b8, b9, b10, r13, r14, r15, a2, g1, g2, g3, g4⟩ := scS (xs := xs) (nx := nx) (q := q) (J := J) hJ hA1 hc1 hits hk h3 h4 l13 l14 l15
    have hb := List.getElem?_eq_getElem hk
    obtain ⟨x1, -⟩ := bok_at hJ hb
    obtain ⟨o', c7, c8, c9, c10, c11, s13, s14, s15, a3, u1, u2, u3, u4⟩ := ih (k + 1) a2 o1 b7 b8 b9 b10 (m 93 k) r13 r14 r15 (by omega) (fun t ht => by rw [g1 t ht, h1 t ht]) (fun p hp => by rw [g2 p hp, h2 p hp, tLs_s hb, x1]) g3 (Or.inr ⟨k, rfl, rfl⟩)
    exact ⟨o', c7, c8, c9, c10, c11, s13, s14, s15, a3, u1, u2, u3, g4.trans u4⟩
theorem sbs_t (hJ : nJ κ i c m) {d k : Nat} (hd : d < 5) (hk : k < fN c 26) : (if tLs c k (fL c 19 0).length = iN d then (1 : Int32) else 0) = sbs c d k := by
  unfold tLs sbs
  rw [List.take_of_length_le (Nat.le_refl _), ← bok_10 hJ hk]
  cases h : (fL c 10 k).getLast? with
  | none => exact if_neg (fun z => iN_ne1 (by omega) z.symm)
  | some b =>
    have hm : b ∈ fL c 10 k := List.mem_of_getLast? h
    rw [bok_10 hJ hk] at hm
    obtain ⟨j, hj⟩ := List.getElem?_of_mem (List.mem_filter.mp hm).1
    obtain ⟨-, x2, -⟩ := bok_at hJ hj
    dsimp only
    rcases tOf01 (fI c 25 b 3) with z | z
    · have e : tDp c b = -1 := by unfold tDp; rw [z]; rfl
      rw [if_neg (show ¬ tDp c b = iN d by rw [e]; exact fun y => iN_ne1 (by omega) y.symm), z]
      split <;> rfl
    · have e : tDp c b = iN (fX c 25 b 1) := by unfold tDp; rw [z]; rfl
      by_cases h2 : fX c 25 b 1 = d
      · rw [if_pos (show tDp c b = iN d by rw [e, h2]), if_pos h2, z]
      · rw [if_neg (show ¬ tDp c b = iN d by rw [e]; exact fun y => h2 ((iN_inj (by omega) (by omega)).mp y)), if_neg h2]
/-- the depots -/
theorem sc325 (hJ : nJ κ i c m) (hA : pA κ a) (hT : ∀ p, p < 64 → a 2 p = tLs c p (fL c 19 0).length) {its : Nat} (a7 a8 a9 a10 a11 : Int32) (RES : Option nOut) (hend : ∀ a12 l13 l14 l15, R1 xs nx 6 400 [some (vR 0 (some 0)), some (vR 35 (some 0)), some (vR 80 (some 0)), some (vI (iN its)), some (vR 2 (some 0)), some (vI (iN (fL c 19 0).length)), some (vI 1), some (vI a7), some (vI a8), some (vI a9), some (vI a10), some (vI a11), some (vI a12), l13, l14, l15] [] (c, a, q, J) = RES) : ∀ (n k : Nat) (l13 l14 l15 : Option nV), k + n = 5 → R1 xs nx 6 325 [some (vR 0 (some 0)), some (vR 35 (some 0)), some (vR 80 (some 0)), some (vI (iN its)), some (vR 2 (some 0)), some (vI (iN (fL c 19 0).length)), some (vI 1), some (vI a7), some (vI a8), some (vI a9), some (vI a10), some (vI a11), some (vI (iN k)), l13, l14, l15] [] (c, a, q, J) = RES := by
  have h26 := hJ.1.2.2.1.1
  have g2 : a 80 2 = iN (fN c 26) := by rw [hA.1.2.2.1, (nJ_k hJ).1.2.2.1]
  intro n
  induction n with
  | zero =>
    intro k l13 l14 l15 e
    rw [d_6_325, if_neg (show ¬ iN k < (5 : Int32) from iN_nlt (b := 5) (by omega) (by omega) (by omega))]
    exact hend _ _ _ _
  | succ n ih =>
    intro k l13 l14 l15 e
    have hk : k < 5 := by omega
    rw [d_6_325, if_pos (show iN k < (5 : Int32) from (iN_lt (b := 5) (by omega) (by omega)).mpr hk), if_neg n10]
    have hl := nStepL (F := fun acc j => R1 xs nx 6 342 [some (vR 0 (some 0)), some (vR 35 (some 0)), some (vR 80 (some 0)), some (vI (iN its)), some (vR 2 (some 0)), some (vI (iN (fL c 19 0).length)), some (vI 1), some (vI a7), some (vI a8), some (vI a9), some (vI a10), some (vI a11), some (vI (iN k)), some (vI acc), some (vI j), l15] [] (c, a, q, J)) (f := sbs c k) (P := fN c 26) (fun j acc hj => ?_) (fN c 26) 0 0 (Nat.zero_add _)
    · have hl : R1 xs nx 6 342 [some (vR 0 (some 0)), some (vR 35 (some 0)), some (vR 80 (some 0)), some (vI (iN its)), some (vR 2 (some 0)), some (vI (iN (fL c 19 0).length)), some (vI 1), some (vI a7), some (vI a8), some (vI a9), some (vI a10), some (vI a11), some (vI (iN k)), some (vI 0), some (vI (iN 0)), l15] [] (c, a, q, J) = R1 xs nx 6 342 [some (vR 0 (some 0)), some (vR 35 (some 0)), some (vR 80 (some 0)), some (vI (iN its)), some (vR 2 (some 0)), some (vI (iN (fL c 19 0).length)), some (vI 1), some (vI a7), some (vI a8), some (vI a9), some (vI a10), some (vI a11), some (vI (iN k)), some (vI (nAcc (sbs c k) (fN c 26) 0 0)), some (vI (iN (fN c 26))), l15] [] (c, a, q, J) := hl
      rw [show (iN 0 : Int32) = 0 from rfl] at hl
      rw [hl, d_6_342, if_pos i62]
      dsimp only
      simp only [t62, g2]
      rw [if_neg (iN_nlt (by omega) (by omega) (by omega)), q163 (a, q, J) hJ hk, bI_Vl, if_pos rfl, d_6_392, iN_add1]
      exact ih (k + 1) _ _ _ (by omega)
    · show R1 xs nx 6 342 _ _ _ = R1 xs nx 6 342 _ _ _
      have hjn : (iN j).toNatClampNeg = j := i32_nat (by omega)
      have hsb := sbs_t hJ hk hj
      rw [d_6_342, if_pos i62]
      dsimp only
      simp only [t62, g2]
      rw [if_pos ((iN_lt (by omega) (by omega)).mpr hj), if_pos (iN_in (show j < 64 by omega) (by decide))]
      simp only [hjn, hT j (by omega)]
      rw [← hsb]
      by_cases h : tLs c j (fL c 19 0).length = iN k
      · rw [if_pos h, if_pos h, d_6_367, iN_add1]
      · rw [if_neg h, if_neg h, d_6_367, iN_add1]
theorem sc56 {a5 a6 : Int32} {its : Nat} : ∀ (n k : Nat) (a : nM), k + n = 64 → ∃ a2 : nM, (∀ t, t ≠ 2 → a2 t = a t) ∧ (∀ j, k ≤ j → j < 64 → a2 2 j = -1) ∧ (∀ j, j < k → a2 2 j = a 2 j) ∧ R1 xs nx 6 56 [some (vR 0 (some 0)), some (vR 35 (some 0)), some (vR 80 (some 0)), some (vI (iN its)), some (vR 2 (some 0)), some (vI a5), some (vI a6), some (vI (iN k)), none, none, none, none, none, none, none, none] [] (c, a, q, J) = R1 xs nx 6 93 [some (vR 0 (some 0)), some (vR 35 (some 0)), some (vR 80 (some 0)), some (vI (iN its)), some (vR 2 (some 0)), some (vI a5), some (vI a6), some (vI (-1)), some (vI 0), some (vI 0), some (vI (-1)), some (vI 0), some (vI 0), none, none, none] [] (c, a2, q, J) := by
  intro n
  induction n with
  | zero =>
    intro k a e
    refine ⟨a, fun _ _ => rfl, fun j h1 h2 => by omega, fun _ _ => rfl, ?_⟩
    rw [d_6_56, if_neg (show ¬ iN k < (64 : Int32) from iN_nlt (b := 64) (by omega) (by omega) (by omega))]
  | succ n ih =>
    intro k a e
    obtain ⟨a2, h1, h2, h3, h4⟩ := ih (k + 1) (uM 2 k (-1) a) (by omega)
    refine ⟨a2, fun t ht => by rw [h1 t ht, uM_ne ht], fun j j1 j2 => ?_, fun j j1 => by rw [h3 j (by omega), uM_at, if_neg (by omega)], ?_⟩
    · by_cases ej : j = k
      · rw [ej, h3 k (Nat.lt_succ_self k), uM_at, if_pos rfl]
      · exact h2 j (by omega) j2
    · rw [d_6_56, if_pos (show iN k < (64 : Int32) from (iN_lt (b := 64) (by omega) (by omega)).mpr (by omega)), if_pos (iN_in (show k < 64 by omega) (by decide)), iN_add1]
      dsimp only
      rw [i32_nat (show k < 2 ^ 31 by omega)]
      exact h4
/-- the law reads the scans -/
theorem areSc (hJ : nJ κ i c m) (hA : pA κ a) (hc : a 80 5 = m 1 0) {its : Nat} (hits : its ≤ fN c 26) : ∃ (a2 : nM) (q2 : Nat), (∀ t, t ≠ 2 → a2 t = a t) ∧ q2 ≤ q + 3 ∧ R1 xs nx 6 0 [some (vR 0 (some 0)), some (vR 35 (some 0)), some (vR 80 (some 0)), some (vI (iN its)), some (vR 2 (some 0)), none, none, none, none, none, none, none, none, none, none, none] [] (c, a, q, J) = nVl 1 c (a2, q2, J) := by
  have h26 := hJ.1.2.2.1.1
  have h400 := (nJ_69 hJ).2
  have hfr : ∀ a' : nM, (∀ t, t ≠ 2 → a' t = a t) → pA κ a' ∧ a' 80 5 = m 1 0 := fun a' h => ⟨pA_2 hA h, by rw [h 80 (by decide)]; exact hc⟩
  obtain ⟨q1, hq1, st⟩ : ∃ q1, q1 ≤ q + 2 ∧ R1 xs nx 6 0 [some (vR 0 (some 0)), some (vR 35 (some 0)), some (vR 80 (some 0)), some (vI (iN its)), some (vR 2 (some 0)), none, none, none, none, none, none, none, none, none, none, none] [] (c, a, q, J) = R1 xs nx 6 56 [some (vR 0 (some 0)), some (vR 35 (some 0)), some (vR 80 (some 0)), some (vI (iN its)), some (vR 2 (some 0)), some (vI (iN (fL c 19 0).length)), some (vI 1), some (vI 0), none, none, none, none, none, none, none, none] [] (c, a, q1, J) := by
    by_cases h0 : (fL c 19 0).length = 0
    · refine ⟨q + 1, by omega, ?_⟩
      rw [d_6_0, q156 (a, q, J), bI_Vl, if_neg (show ¬ (400 : Int32) < iN (fL c 19 0).length from iN_nlt (a := 400) (by omega) (by omega) (by omega)), kE11 hJ, bI_Vl, if_pos rfl, if_pos (show iN (fL c 19 0).length = 0 by rw [h0]; rfl), d_6_46, d_6_51]
    · refine ⟨q + 1 + 1, by omega, ?_⟩
      rw [d_6_0, q156 (a, q, J), bI_Vl, if_neg (show ¬ (400 : Int32) < iN (fL c 19 0).length from iN_nlt (a := 400) (by omega) (by omega) (by omega)), kE11 hJ, bI_Vl, if_pos rfl, if_neg (show ¬ iN (fL c 19 0).length = 0 from fun z => h0 ((iN_inj (b := 0) (by omega) (by omega)).mp z)), kE11b hJ (by omega), bI_Vl, if_pos rfl, d_6_46, d_6_51]
  obtain ⟨a1, b1, b2, -, b4⟩ := sc56 (xs := xs) (nx := nx) (c := c) (q := q1) (J := J) (a5 := iN (fL c 19 0).length) (a6 := 1) (its := its) 64 0 a (Nat.zero_add _)
  rw [show (iN 0 : Int32) = 0 from rfl] at b4
  have hs0 : scI c its 0 none (-1) 0 0 (-1) := ⟨0, Nat.le_refl _, rfl, ⟨rfl, rfl⟩, fun p _ => rfl, Or.inl ⟨rfl, rfl⟩⟩
  obtain ⟨o', c7, c8, c9, c10, c11, s13, s14, s15, a3, u1, u2, u3, u4⟩ := scLo (xs := xs) (nx := nx) (q := q1) (J := J) (a := a) hJ hfr (show its ≤ 40 by omega) (fL c 19 0).length 0 a1 none (-1) 0 0 (-1) 0 none none none (Nat.zero_add _) b1 (fun p hp => by rw [b2 p (Nat.zero_le _) hp]; rfl) hs0 (Or.inl ⟨rfl, rfl⟩)
  rw [show (iN 0 : Int32) = 0 from rfl] at u4
  obtain ⟨hA3, -⟩ := hfr a3 u1
  have g2 : a3 80 2 = iN (fN c 26) := by rw [hA3.1.2.2.1, (nJ_k hJ).1.2.2.1]
  obtain ⟨s, s1, s2, s3, s4, s5⟩ := u3
  have eE := sR_e (c := c) (its := its) (Nat.le_refl (fL c 19 0).length)
  by_cases hlt : its < fN c 26
  · refine ⟨a3, q1 + 1, u1, by omega, ?_⟩
    rw [st, b4, u4, d_6_322]
    refine sc325 (q := q1) hJ hA3 u2 c7 c8 c9 c10 c11 _ (fun a12 l13 l14 l15 => ?_) 5 0 _ _ _ (Nat.zero_add _)
    have e0 : fL c 10 its = sR c its 0 := by rw [bok_10 hJ hlt]; rfl
    have ew : wy ((fL c 10 its).map fun e => fX c 25 e 1) none 0 s = -1 := by
      rw [e0, s4 s (Nat.le_refl _), eE]
      rfl
    have ex : wrF c (fL c 10 its) none 0 = c10 := by
      rw [e0]
      rcases s5 with ⟨z1, z2⟩ | ⟨-, z2⟩
      · rw [z2, eE, z1]
        cases o' <;> rfl
      · exact z2
    rw [d_6_400, if_neg n10, if_pos i62]
    dsimp only
    simp only [t62, g2]
    rw [if_pos ((iN_lt (by omega) (by omega)).mpr hlt), s2, q159 _ hJ hlt (show s < 2 ^ 31 by omega), bI_Vl, ew, if_pos rfl, q161 _ hJ hlt, bI_Vl, ex, if_pos rfl, kE12 hJ hlt, bI_Vl, if_pos rfl]
    rfl
  · refine ⟨a3, q1, u1, by omega, ?_⟩
    rw [st, b4, u4, d_6_322]
    refine sc325 (q := q1) hJ hA3 u2 c7 c8 c9 c10 c11 _ (fun a12 l13 l14 l15 => ?_) 5 0 _ _ _ (Nat.zero_add _)
    rw [d_6_400, if_neg n10, if_pos i62]
    dsimp only
    simp only [t62, g2]
    rw [if_neg (iN_nlt (by omega) (by omega) (by omega))]
    rfl
end SCN
end KAP
