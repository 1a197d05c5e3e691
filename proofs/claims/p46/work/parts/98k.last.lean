/-! ===== stockByScans, wrong ===== -/
section KAP
variable {κ : kP}
section OQC
variable {xs : Nat → Int32} {nx : Nat}
def nLsc (L bk : List Nat) (o : Option Nat) : Prop := match o with
  | none => L = []
  | some i => i < bk.length ∧ ∃ b, bk[i]? = some b ∧ L.getLast? = some b
theorem take1 {L : List Nat} {i : Nat} (h : i < L.length) : L.take (i + 1) = L.take i ++ [L[i]] := by
  rw [List.take_add_one, List.getElem?_eq_getElem h]
  rfl
theorem loop235 {i0 k : Nat} {c : nC} {m : nM} (hJ : nJ κ i0 c m) {s : nS} (s69 : s.2.1 1 69 = m 1 69) (s91 : s.2.1 91 = m 91) : ∀ (n i : Nat) (o : Option Nat), i + n = (fL c 19 0).length → nLsc (((fL c 19 0).take i).filter fun b => decide (fI c 25 b 0 = iN k)) (fL c 19 0) o →
    ∃ o', R1 xs nx 235 4 [some (vR 1 (some 0)), some (vI (iN k)), some (vI (oI o)), some (vI (iN i))] [] s = some (.inl (some (vI (oI o'))), s) ∧ nLsc ((fL c 19 0).filter fun b => decide (fI c 25 b 0 = iN k)) (fL c 19 0) o' := by
  obtain ⟨h69, h400⟩ := nJ_69 hJ
  intro n
  induction n with
  | zero =>
    intro i o e h
    refine ⟨o, ?_, ?_⟩
    · rw [d_235_4, s69, h69, if_neg (fun z => by have := (iN_lt (by omega) (by omega)).mp z; omega)]
    · rw [List.take_of_length_le (by omega)] at h
      exact h
  | succ n ih =>
    intro i o e h
    have hi : i < (fL c 19 0).length := by omega
    obtain ⟨x1, -⟩ := bok_at hJ (List.getElem?_eq_getElem hi)
    rw [d_235_4, s69, h69, if_pos ((iN_lt (by omega) (by omega)).mpr hi), if_pos (iN_in (by omega) (by decide)), i32_nat (by omega), s91]
    by_cases hc : m 91 i = iN k
    · rw [if_pos hc, d_235_27, iN_add1]
      refine ih (i + 1) (some i) (by omega) ⟨hi, (fL c 19 0)[i], List.getElem?_eq_getElem hi, ?_⟩
      rw [take1 hi, List.filter_append, List.filter_cons, if_pos (decide_eq_true (by rw [x1]; exact hc)), List.filter_nil]
      exact List.getLast?_concat
    · rw [if_neg hc, d_235_27, iN_add1]
      refine ih (i + 1) o (by omega) ?_
      rw [take1 hi, List.filter_append, List.filter_cons, if_neg (fun z => hc (by rw [← x1]; exact of_decide_eq_true z)), List.filter_nil, List.append_nil]
      exact h
theorem last235 {i0 k : Nat} {c : nC} {m : nM} (hJ : nJ κ i0 c m) (hk : k < fN c 26) {s : nS} (s69 : s.2.1 1 69 = m 1 69) (s91 : s.2.1 91 = m 91) :
    ∃ o', R1 xs nx 235 0 [some (vR 1 (some 0)), some (vI (iN k)), none, none] [] s = some (.inl (some (vI (oI o'))), s) ∧ nLsc (fL c 10 k) (fL c 19 0) o' := by
  rw [d_235_0, bok_10 hJ hk]
  exact loop235 hJ s69 s91 (fL c 19 0).length 0 none (Nat.zero_add _) (by rw [List.take_zero]; rfl)
theorem r72 {k : Nat} {s : nS} (hl : (fL s.1 10 k).length < 1000) : R1 xs nx 72 0 [some (vR 26 (some k))] [] s = some (.inl (some (vR 25 (fL s.1 10 k).getLast?)), s) := by
  rw [d_72_0]
  by_cases h : fL s.1 10 k = []
  · rw [if_pos h, if_neg n10, h]
    rfl
  · rw [if_neg h, if_pos rfl]
    have hp : 0 < (fL s.1 10 k).length := List.length_pos_iff.mpr h
    have e1 : iN (fL s.1 10 k).length - 1 = iN ((fL s.1 10 k).length - 1) := i32_sub (b := 1) (by omega) (by omega)
    have e2 : (fL s.1 10 k).getLast? = some (fL s.1 10 k)[(fL s.1 10 k).length - 1] := by
      rw [List.getLast?_eq_getElem?, List.getElem?_eq_getElem]
    show (if iN (fL s.1 10 k).length - 1 < 0 then none else _) = _
    rw [e1, if_neg (iN_pos (by omega)), i32_nat (by omega), e2, List.getElem?_eq_getElem (by omega), nn_some]
def tOf (x : Int32) : Int32 := if x = 0 then 1 else if x = 1 then 1 else if x = 3 then 1 else if x = 7 then 1 else if x = 9 then 1 else 0
theorem r74 {b : Nat} {s : nS} : R1 xs nx 74 0 [some (vR 25 (some b))] [] s = some (.inl (some (vI (tOf (fI s.1 25 b 3)))), s) := by
  rw [d_74_0]
  unfold tOf
  split
  · rfl
  · split
    · rfl
    · split
      · rfl
      · split
        · rfl
        · split <;> rfl
theorem tOf01 (x : Int32) : tOf x = 0 ∨ tOf x = 1 := by
  unfold tOf
  split
  · exact Or.inr rfl
  · split
    · exact Or.inr rfl
    · split
      · exact Or.inr rfl
      · split
        · exact Or.inr rfl
        · split
          · exact Or.inr rfl
          · exact Or.inl rfl
def sbs (c : nC) (d k : Nat) : Int32 := match (fL c 10 k).getLast? with
  | none => 0
  | some b => if fX c 25 b 1 = d then tOf (fI c 25 b 3) else 0
theorem iN_a0 {x : Int32} : x + 0 = x := Int32.add_zero x
theorem sbs163 {s : nS} {a1 : Int32} {d P : Nat} (hl : fL s.1 16 0 = List.range P) (hP : P ≤ 40) (hk : ∀ k, k < P → (fL s.1 10 k).length < 1000) : ∀ (m i : Nat) (acc : Int32) (l5 : Option nV), i + m = P → R1 xs nx 163 11 [some (vR 0 (some 0)), some (vI a1), some (vR 21 (some d)), some (vI acc), some (vI (iN i)), l5] [] s = some (.inl (some (vI (nAcc (sbs s.1 d) m i acc))), s) := by
  intro m
  induction m with
  | zero =>
    intro i acc l5 e
    rw [d_163_11, hl, List.length_range, if_neg (fun z => by have := (iN_lt (by omega) (by omega)).mp z; omega)]
    rfl
  | succ m ih =>
    intro i acc l5 e
    rw [d_163_11, hl, List.length_range, if_pos ((iN_lt (by omega) (by omega)).mpr (by omega)), if_neg (iN_pos (by omega)), i32_nat (by omega), List.getElem?_range (by omega), nn_some, r72 (hk i (by omega))]
    simp only [nAcc]
    unfold sbs
    cases hL : (fL s.1 10 i).getLast? with
    | none =>
      simp only [bR, ntg_self, nz_none, d_163_67, d_163_68, iN_add1]
      exact ih (i + 1) _ _ (by omega)
    | some b =>
      simp only [bR, ntg_self, nz_some, nn_some]
      by_cases h : fX s.1 25 b 1 = d
      · rw [if_pos (by rw [h]), if_pos h, r74, bI_some]
        rcases tOf01 (fI s.1 25 b 3) with z | z
        · rw [z, if_pos rfl, d_163_67, d_163_68, iN_add1]
          exact ih (i + 1) _ _ (by omega)
        · rw [z, if_neg n10, d_163_68, iN_add1]
          exact ih (i + 1) _ _ (by omega)
      · rw [if_neg (fun z => h (Option.some.inj z)), if_neg h, d_163_67, d_163_68, iN_add1]
        exact ih (i + 1) _ _ (by omega)
theorem sbs258 {i0 d : Nat} {c : nC} {m : nM} (hJ : nJ κ i0 c m) (hd : d < 5) {s : nS} (s24 : s.2.1 1 24 = m 1 24) (s69 : s.2.1 1 69 = m 1 69) (s91 : s.2.1 91 = m 91) (s92 : s.2.1 92 = m 92) (s94 : s.2.1 94 = m 94) : ∀ (n i : Nat) (acc : Int32) (l4 l5 l6 : Option nV), i + n = fN c 26 →
    R1 xs nx 258 25 [some (vR 1 (some 0)), some (vI (iN d)), some (vI acc), some (vI (iN i)), l4, l5, l6] [] s = some (.inl (some (vI (nAcc (sbs c d) n i acc))), s) := by
  obtain ⟨q1, q2, q3⟩ := hJ.1.2.2.1
  obtain ⟨h69, h400⟩ := nJ_69 hJ
  intro n
  induction n with
  | zero =>
    intro i acc l4 l5 l6 e
    rw [d_258_25, s24, q2, if_neg (fun z => by have := (iN_lt (by omega) (by omega)).mp z; omega)]
    rfl
  | succ n ih =>
    intro i acc l4 l5 l6 e
    have hk : i < fN c 26 := by omega
    obtain ⟨o, ho, hL⟩ := last235 (xs := xs) (nx := nx) hJ hk s69 s91
    rw [d_258_25, s24, q2, if_pos ((iN_lt (by omega) (by omega)).mpr hk), ho, bI_some]
    simp only [nAcc]
    cases o with
    | none =>
      have hL : fL c 10 i = [] := hL
      have e0 : sbs c d i = 0 := by unfold sbs; rw [hL]; rfl
      rw [if_pos (show oI none = (-1 : Int32) from rfl), d_258_57, if_neg (by decide), if_neg (by decide), if_neg (by decide), if_neg (by decide), if_neg (by decide), d_258_95, if_pos rfl, d_258_118, d_258_119, iN_add1, e0]
      exact ih (i + 1) _ _ _ _ (by omega)
    | some j =>
      obtain ⟨hj, b, hb, hL⟩ := hL
      obtain ⟨x1, x2, x3, x4, x5, -⟩ := bok_at hJ hb
      have hin : mIn (iN j) 400 = true := iN_in (by omega) (by decide)
      have en : (iN j).toNatClampNeg = j := i32_nat (by omega)
      have e0 : sbs c d i = if fX c 25 b 1 = d then tOf (fI c 25 b 3) else 0 := by unfold sbs; rw [hL]
      simp only [show oI (some j) = iN j from rfl]
      rw [if_neg (iN_ne1 (by omega)), if_pos hin, en, s94]
      have hd9 : ∀ (A B : Option nOut), (if m 94 j = 0 then A else if m 94 j = 1 then A else if m 94 j = 3 then A else if m 94 j = 7 then A else if m 94 j = 9 then A else B) = if tOf (m 94 j) = 1 then A else B := by
        intro A B
        unfold tOf
        split
        · rfl
        · split
          · rfl
          · split
            · rfl
            · split
              · rfl
              · split <;> rfl
      rw [d_258_57, hd9, e0, x5]
      rcases tOf01 (m 94 j) with z | z
      · rw [z, if_neg (by decide), d_258_95, if_pos rfl, d_258_118, d_258_119, iN_add1]
        have : (if fX c 25 b 1 = d then (0 : Int32) else 0) = 0 := by split <;> rfl
        rw [this]
        exact ih (i + 1) _ _ _ _ (by omega)
      · rw [z, if_pos rfl, d_258_90, d_258_95, if_neg n10, if_pos (show mIn (iN j) 400 = true from hin), en, s92, x3]
        by_cases h : fX c 25 b 1 = d
        · rw [if_pos (by rw [h]), if_pos h, d_258_119, iN_add1]
          exact ih (i + 1) _ _ _ _ (by omega)
        · rw [if_neg (fun w => h ((iN_inj (by omega) (by omega)).mp w)), if_neg h, d_258_118, d_258_119, iN_add1]
          exact ih (i + 1) _ _ _ _ (by omega)
theorem len10 {i : Nat} {c : nC} {m : nM} (hJ : nJ κ i c m) {k : Nat} (hk : k < fN c 26) : (fL c 10 k).length ≤ 400 := by
  rw [bok_10 hJ hk]
  exact Nat.le_trans (List.length_filter_le _ _) (nJ_69 hJ).2
theorem op41 : ∀ i, i < 512 → ∀ (a1 : Int32), nDoes κ pT pF i [(0, 1)] (fun s => R1 xs nx 163 0 [some (vR 0 (some 0)), some (vI a1), none, none, none, none] [] s) (fun s => R1 xs nx 258 0 [some (vR 1 (some 0)), some (vI a1), none, none, none, none, none] [] s) := by
  intro i hi a1 s hJ
  rcases dep78 (xs := xs) (nx := nx) a1 with ⟨h1, h2⟩ | ⟨d, hd, rfl, h1, h2⟩
  · exact nFail (E := 0) (e := 1) (v := 0) hJ (by simp only [d_163_0, h1, bR, hE]) (fun z => by simp only [d_258_0, h2, bI, if_true, d_258_13, r172_1, n10, if_false]) rfl n10
  · obtain ⟨q1, q2, q3⟩ := hJ.1.2.2.1
    refine nAsk (v := nAcc (sbs s.1 d) (fN s.1 26) 0 0) hJ ?_ (fun z => ?_)
    · simp only [d_163_0, h1, bR, ntg_self]
      exact sbs163 q3 q1 (fun k hk => by have := len10 hJ hk; omega) (fN s.1 26) 0 0 _ (Nat.zero_add _)
    · simp only [d_258_0, h2, bI, n10, if_false, d_258_13, r172_0, if_true]
      exact sbs258 hJ hd (s := (s.1, uM 1 76 0 s.2.1, z)) (show uM 1 76 0 s.2.1 1 24 = _ from uM1_ne (by decide)) (show uM 1 76 0 s.2.1 1 69 = _ from uM1_ne (by decide)) (show uM 1 76 0 s.2.1 91 = _ from uM_ne (by decide)) (show uM 1 76 0 s.2.1 92 = _ from uM_ne (by decide)) (show uM 1 76 0 s.2.1 94 = _ from uM_ne (by decide)) (fN s.1 26) 0 0 _ _ _ (Nat.zero_add _)
/-! wrong -/
/-- a lane between two depots that takes so long at most -/
def okL (c : nC) (a b : Nat) (t : Int32) (l : Nat) : Prop := fX c 23 l 1 = a ∧ fX c 23 l 2 = b ∧ ¬ t < fI c 23 l 3
theorem quick160 {s : nS} {a b P : Nat} (hl : fL s.1 14 0 = List.range P) (hP : P ≤ 12) (hpos : ∀ l, l < P → fI s.1 23 l 3 ≠ -1) : ∀ (n i : Nat) (x : Int32) (l5 : Option nV), i + n = P →
    ((x = -1 ∧ ∀ l, l < i → ¬ (fX s.1 23 l 1 = a ∧ fX s.1 23 l 2 = b)) ∨ (∃ l, l < i ∧ fX s.1 23 l 1 = a ∧ fX s.1 23 l 2 = b ∧ x = fI s.1 23 l 3) ∧ ∀ l, l < i → fX s.1 23 l 1 = a → fX s.1 23 l 2 = b → ¬ fI s.1 23 l 3 < x) →
    ∃ x', R1 xs nx 160 5 [some (vR 0 (some 0)), some (vR 21 (some a)), some (vR 21 (some b)), some (vI x), some (vI (iN i)), l5] [] s = some (.inl (some (vI x')), s) ∧
      ((x' = -1 ∧ ∀ l, l < P → ¬ (fX s.1 23 l 1 = a ∧ fX s.1 23 l 2 = b)) ∨ (∃ l, l < P ∧ fX s.1 23 l 1 = a ∧ fX s.1 23 l 2 = b ∧ x' = fI s.1 23 l 3) ∧ ∀ l, l < P → fX s.1 23 l 1 = a → fX s.1 23 l 2 = b → ¬ fI s.1 23 l 3 < x') := by
  intro n
  induction n with
  | zero =>
    intro i x l5 e h
    have : i = P := by omega
    subst this
    refine ⟨x, ?_, h⟩
    rw [d_160_5, hl, List.length_range, if_neg (fun z => by have := (iN_lt (by omega) (by omega)).mp z; omega)]
  | succ n ih =>
    intro i x l5 e h
    rw [d_160_5, hl, List.length_range, if_pos ((iN_lt (by omega) (by omega)).mpr (by omega)), if_neg (iN_pos (by omega)), i32_nat (by omega), List.getElem?_range (by omega), nn_some]
    have skip : ¬ (fX s.1 23 i 1 = a ∧ fX s.1 23 i 2 = b) → ((x = -1 ∧ ∀ l, l < i + 1 → ¬ (fX s.1 23 l 1 = a ∧ fX s.1 23 l 2 = b)) ∨ (∃ l, l < i + 1 ∧ fX s.1 23 l 1 = a ∧ fX s.1 23 l 2 = b ∧ x = fI s.1 23 l 3) ∧ ∀ l, l < i + 1 → fX s.1 23 l 1 = a → fX s.1 23 l 2 = b → ¬ fI s.1 23 l 3 < x) := by
      intro hn
      rcases h with ⟨h1, h2⟩ | ⟨⟨l, l1, l2, l3, l4⟩, h2⟩
      · refine Or.inl ⟨h1, fun l hl => ?_⟩
        by_cases q : l = i
        · rw [q]; exact hn
        · exact h2 l (by omega)
      · refine Or.inr ⟨⟨l, by omega, l2, l3, l4⟩, fun l' hl' w1 w2 => ?_⟩
        by_cases q : l' = i
        · rw [q] at w1 w2; exact absurd ⟨w1, w2⟩ hn
        · exact h2 l' (by omega) w1 w2
    by_cases ha : fX s.1 23 i 1 = a
    · rw [if_pos (by rw [ha])]
      by_cases hb : fX s.1 23 i 2 = b
      · rw [if_pos (by rw [hb])]
        have take : (x = -1 ∨ fI s.1 23 i 3 < x) → ((fI s.1 23 i 3 = -1 ∧ ∀ l, l < i + 1 → ¬ (fX s.1 23 l 1 = a ∧ fX s.1 23 l 2 = b)) ∨ (∃ l, l < i + 1 ∧ fX s.1 23 l 1 = a ∧ fX s.1 23 l 2 = b ∧ fI s.1 23 i 3 = fI s.1 23 l 3) ∧ ∀ l, l < i + 1 → fX s.1 23 l 1 = a → fX s.1 23 l 2 = b → ¬ fI s.1 23 l 3 < fI s.1 23 i 3) := by
          intro hx
          refine Or.inr ⟨⟨i, Nat.lt_succ_self _, ha, hb, rfl⟩, fun l hl w1 w2 z => ?_⟩
          by_cases q : l = i
          · rw [q, i32_ltt] at z; omega
          · rcases h with ⟨h1, h2⟩ | ⟨⟨l0, y1, y2, y3, y4⟩, h2⟩
            · exact h2 l (by omega) ⟨w1, w2⟩
            · rcases hx with hx | hx
              · exact hpos l0 (by omega) (by rw [← y4]; exact hx)
              · have := h2 l (by omega) w1 w2
                rw [i32_ltt] at this hx z
                omega
        by_cases h1 : x = -1
        · rw [if_pos h1, d_160_63, d_160_69, iN_add1]
          exact ih (i + 1) _ _ (by omega) (take (Or.inl h1))
        · rw [if_neg h1]
          by_cases h2 : fI s.1 23 i 3 < x
          · rw [if_pos h2, d_160_63, d_160_69, iN_add1]
            exact ih (i + 1) _ _ (by omega) (take (Or.inr h2))
          · rw [if_neg h2, d_160_69, iN_add1]
            refine ih (i + 1) _ _ (by omega) ?_
            rcases h with ⟨h3, -⟩ | ⟨⟨l0, y1, y2, y3, y4⟩, h4⟩
            · exact absurd h3 h1
            · refine Or.inr ⟨⟨l0, by omega, y2, y3, y4⟩, fun l hl w1 w2 => ?_⟩
              by_cases q : l = i
              · rw [q]; exact h2
              · exact h4 l (by omega) w1 w2
      · rw [if_neg (fun z => hb (Option.some.inj z)), d_160_69, iN_add1]
        exact ih (i + 1) x _ (by omega) (skip fun z => hb z.2)
    · rw [if_neg (fun z => ha (Option.some.inj z)), d_160_69, iN_add1]
      exact ih (i + 1) x _ (by omega) (skip fun z => ha z.1)
end OQC
end KAP
