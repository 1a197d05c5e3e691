/-! ===== stock, free, onVan, place ===== -/
section KAP
variable {κ : kP}
section OQA
variable {xs : Nat → Int32} {nx : Nat}
/-- the depot of a parcel, as the reference has it -/
def dpt (m : nM) (k : Nat) : Int32 := if m 66 k = 1 then m 35 (m 67 k).toNatClampNeg else if m 66 k = 5 then m 88 (m 67 k).toNatClampNeg else if m 66 k = 0 then m 67 k else if m 66 k = 3 then m 67 k else if m 66 k = 6 then m 67 k else -1
theorem r256 {i : Nat} {c : nC} {m : nM} (hJ : nJ κ i c m) {k : Nat} (hk : k < fN c 26) : (∀ s : nS, s.2.1 66 = m 66 → s.2.1 67 = m 67 → s.2.1 35 = m 35 → s.2.1 88 = m 88 → R1 xs nx 256 0 [some (vR 1 (some 0)), some (vI (iN k)), none] [] s = some (.inl (some (vI (dpt m k))), s)) ∧ ∀ d, d < 5 → (dpt m k = iN d ↔ fP c 9 k 3 = some d) := by
  have h40 := k40 hJ hk
  have hin : mIn (iN k) 40 = true := iN_in40 h40
  have en : (iN k).toNatClampNeg = k := i32_nat (by omega)
  obtain ⟨-, -, -, -, y⟩ := hJ.2.2.2.2.2.2.2.1 k hk
  have hsm : ∀ (d' : Nat), d' < 5 → ∀ d, d < 5 → ((iN d' : Int32) = iN d ↔ (some d' : Option Nat) = some d) := fun d' h' d h => by
    rw [iN_inj (by omega) (by omega), Option.some.injEq]
  have hno : ∀ d, d < 5 → ((-1 : Int32) = iN d ↔ (none : Option Nat) = some d) := fun d h => ⟨fun z => absurd z.symm (iN_ne1 (by omega)), fun z => by cases z⟩
  unfold dpt
  rcases y with ⟨z, d, hd, z1, z2, -⟩ | ⟨z, l, hl, z1, z2, -⟩ | ⟨z, d, hd, z1, z2, -⟩ | ⟨z, d, hd, z1, z2, -⟩ | ⟨z, d, hd, z1, z2, -⟩ | ⟨z, l, hl, z1, z2, -⟩ | ⟨z, d, hd, z1, z2, -⟩ | ⟨z, -, z2, -⟩ | ⟨z, -, z2, -⟩
  · rw [z, if_neg c01, if_neg (by decide), if_pos rfl, z1, z2]
    exact ⟨fun s s1 s2 s3 s4 => by rw [d_256_0, if_pos hin, en, s1, z, if_neg c01, if_neg (by decide), if_pos rfl, if_pos hin, s2, z1], hsm d hd⟩
  · obtain ⟨⟨x1, x2⟩, -⟩ := hJ.2.2.2.1.1 l hl
    have h12 := hJ.1.1.1
    rw [z, if_pos rfl, z1, i32_nat (by omega), x2, z2]
    refine ⟨fun s s1 s2 s3 s4 => ?_, hsm _ x1⟩
    rw [d_256_0, if_pos hin, en, s1, z, if_pos rfl, if_pos hin, s2]
    simp only [z1]
    rw [if_pos (mIn_iff.mpr ⟨i32_pos (by omega), by rw [i32_nat (by omega)]; omega⟩), i32_nat (by omega), s3, x2]
  · rw [z, if_neg c21, if_neg (by decide), if_neg c20, if_neg (by decide), if_neg (by decide), z2]
    exact ⟨fun s s1 s2 s3 s4 => by rw [d_256_0, if_pos hin, en, s1, z, if_neg c21, if_neg (by decide), if_neg c20, if_neg (by decide), if_neg (by decide)], hno⟩
  · rw [z, if_neg (by decide), if_neg (by decide), if_neg (by decide), if_pos rfl, z1, z2]
    exact ⟨fun s s1 s2 s3 s4 => by rw [d_256_0, if_pos hin, en, s1, z, if_neg (by decide), if_neg (by decide), if_neg (by decide), if_pos rfl, if_pos hin, s2, z1], hsm d hd⟩
  · rw [z, if_neg (by decide), if_neg (by decide), if_neg (by decide), if_neg (by decide), if_neg (by decide), z2]
    exact ⟨fun s s1 s2 s3 s4 => by rw [d_256_0, if_pos hin, en, s1, z, if_neg (by decide), if_neg (by decide), if_neg (by decide), if_neg (by decide), if_neg (by decide)], hno⟩
  · obtain ⟨⟨x1, x2⟩, -⟩ := hJ.2.2.2.2.2.2.2.2.2.2.2.2.1 l hl
    have h12 := hJ.1.2.2.2.2.1.1
    rw [z, if_neg (by decide), if_pos rfl, z1, i32_nat (by omega), x2, z2]
    refine ⟨fun s s1 s2 s3 s4 => ?_, hsm _ x1⟩
    rw [d_256_0, if_pos hin, en, s1, z, if_neg (by decide), if_pos rfl, if_pos hin, s2]
    simp only [z1]
    rw [if_pos (mIn_iff.mpr ⟨i32_pos (by omega), by rw [i32_nat (by omega)]; omega⟩), i32_nat (by omega), s4, x2]
  · rw [z, if_neg (by decide), if_neg (by decide), if_neg (by decide), if_neg (by decide), if_pos rfl, z1, z2]
    exact ⟨fun s s1 s2 s3 s4 => by rw [d_256_0, if_pos hin, en, s1, z, if_neg (by decide), if_neg (by decide), if_neg (by decide), if_neg (by decide), if_pos rfl, if_pos hin, s2, z1], hsm d hd⟩
  · rw [z, if_neg (by decide), if_neg (by decide), if_neg (by decide), if_neg (by decide), if_neg (by decide), z2]
    exact ⟨fun s s1 s2 s3 s4 => by rw [d_256_0, if_pos hin, en, s1, z, if_neg (by decide), if_neg (by decide), if_neg (by decide), if_neg (by decide), if_neg (by decide)], hno⟩
  · rw [z, if_neg (by decide), if_neg (by decide), if_neg (by decide), if_neg (by decide), if_neg (by decide), z2]
    exact ⟨fun s s1 s2 s3 s4 => by rw [d_256_0, if_pos hin, en, s1, z, if_neg (by decide), if_neg (by decide), if_neg (by decide), if_neg (by decide), if_neg (by decide)], hno⟩
theorem op40 : ∀ i, i < 512 → ∀ (a1 : Int32), nDoes κ pT pF i [(0, 1)] (fun s => R1 xs nx 162 0 [some (vR 0 (some 0)), some (vI a1), none, none, none] [] s) (fun s => R1 xs nx 257 0 [some (vR 1 (some 0)), some (vI a1), none, none] [] s) := by
  intro i hi a1 s hJ
  rcases dep78 (xs := xs) (nx := nx) a1 with ⟨h1, h2⟩ | ⟨d, hd, rfl, h1, h2⟩
  · exact nFail (E := 0) (e := 1) (v := 0) hJ (by simp only [d_162_0, h1, bR, hE]) (fun z => by simp only [d_257_0, h2, bI, if_true, d_257_13, r172_1, n10, if_false]) rfl n10
  · obtain ⟨q1, q2, q3⟩ := hJ.1.2.2.1
    have e9 : ∀ k, k < fN s.1 26 → (if dpt s.2.1 k = iN d then (1 : Int32) else 0) = if fP s.1 9 k 3 = some d then 1 else 0 := fun k hk => by
      have := (r256 (xs := xs) (nx := nx) hJ hk).2 d hd
      by_cases e : fP s.1 9 k 3 = some d
      · rw [if_pos e, if_pos (this.mpr e)]
      · rw [if_neg e, if_neg (fun z => e (this.mp z))]
    refine nAsk (v := nAcc (fun k => if fP s.1 9 k 3 = some d then 1 else 0) (fN s.1 26) 0 0) hJ ?_ (fun z => ?_)
    · simp only [d_162_0, h1, bR, ntg_self]
      refine nSumL (F := fun acc j => R1 xs nx 162 11 [some (vR 0 (some 0)), some (vI (iN d)), some (vR 21 (some d)), some (vI acc), some (vI j)] [] s) (f := fun k => if fP s.1 9 k 3 = some d then 1 else 0) (P := fN s.1 26) (fun k acc hk => ?_) (fun acc => ?_) (fN s.1 26) 0 0 (Nat.zero_add _)
      · show R1 xs nx 162 11 _ _ s = R1 xs nx 162 11 _ _ s
        rw [d_162_11, q3, List.length_range, if_pos ((iN_lt (by omega) (by omega)).mpr hk), if_neg (iN_pos (by omega)), i32_nat (by omega), List.getElem?_range hk, nn_some]
        by_cases e : fP s.1 9 k 3 = some d
        · rw [if_pos e, d_162_51, iN_add1, if_pos e]
        · rw [if_neg e, d_162_51, iN_add1, if_neg e]
      · show R1 xs nx 162 11 _ _ s = _
        rw [d_162_11, q3, List.length_range, if_neg (fun z => Nat.lt_irrefl _ ((iN_lt (by omega) (by omega)).mp z))]
    · simp only [d_257_0, h2, bI, n10, if_false, d_257_13, r172_0, if_true]
      rw [← nAcc_cg e9 (fN s.1 26) 0 0 (Nat.zero_add _)]
      refine nSumL (F := fun acc j => R1 xs nx 257 25 [some (vR 1 (some 0)), some (vI (iN d)), some (vI acc), some (vI j)] [] (s.1, uM 1 76 0 s.2.1, z)) (f := fun k => if dpt s.2.1 k = iN d then 1 else 0) (P := fN s.1 26) (fun k acc hk => ?_) (fun acc => ?_) (fN s.1 26) 0 0 (Nat.zero_add _)
      · show R1 xs nx 257 25 _ _ _ = R1 xs nx 257 25 _ _ _
        rw [d_257_25, (r256 (xs := xs) (nx := nx) hJ hk).1 (s.1, uM 1 76 0 s.2.1, z) (show uM 1 76 0 s.2.1 66 = _ from uM_ne (by decide)) (show uM 1 76 0 s.2.1 67 = _ from uM_ne (by decide)) (show uM 1 76 0 s.2.1 35 = _ from uM_ne (by decide)) (show uM 1 76 0 s.2.1 88 = _ from uM_ne (by decide)), bI_some]
        simp (disch := decide) only [uM1_ne]
        rw [q2, if_pos ((iN_lt (by omega) (by omega)).mpr hk)]
        by_cases e : dpt s.2.1 k = iN d
        · rw [if_pos e, d_257_48, iN_add1, if_pos e]
        · rw [if_neg e, d_257_48, iN_add1, if_neg e]
      · show R1 xs nx 257 25 _ _ _ = _
        rw [d_257_25]
        simp (disch := decide) only [uM1_ne]
        rw [q2, if_neg (fun z => Nat.lt_irrefl _ ((iN_lt (by omega) (by omega)).mp z))]
/-- the reference counts what is free -/
theorem loop216 {s : nS} {a1 a2 : Int32} {P : Nat} (hu : s.2.1 1 24 = iN P) (hP : P ≤ 40) : ∀ (n i b : Nat), i + n = P → ((List.range' i n).filter fun k => decide (s.2.1 66 k = 5 ∧ s.2.1 67 k = a1 ∧ s.2.1 71 k = a2)).length ≤ b → b < 1000 →
    R1 xs nx 216 14 [some (vR 1 (some 0)), some (vI a1), some (vI a2), some (vI (iN b)), some (vI (iN i))] [] s = some (.inl (some (vI (iN (b - ((List.range' i n).filter fun k => decide (s.2.1 66 k = 5 ∧ s.2.1 67 k = a1 ∧ s.2.1 71 k = a2)).length)))), s) := by
  intro n
  induction n with
  | zero =>
    intro i b e _ _
    rw [d_216_14, hu, if_neg (fun z => by have := (iN_lt (by omega) (by omega)).mp z; omega)]
    rfl
  | succ n ih =>
    intro i b e hb hb1
    have hin : mIn (iN i) 40 = true := iN_in40 (by omega)
    have en : (iN i).toNatClampNeg = i := i32_nat (by omega)
    rw [d_216_14, hu, if_pos ((iN_lt (by omega) (by omega)).mpr (by omega)), if_pos hin, en]
    rw [List.range'_succ, List.filter_cons] at hb ⊢
    have step0 : ∀ x : Int32, x - 0 = x := fun x => by rw [Int32.sub_zero]
    by_cases h : s.2.1 66 i = 5 ∧ s.2.1 67 i = a1 ∧ s.2.1 71 i = a2
    · rw [if_pos h.1, if_pos hin, if_pos h.2.1, if_pos hin, if_pos h.2.2, d_216_62, iN_add1]
      rw [if_pos (decide_eq_true h), List.length_cons] at hb ⊢
      have hb' : b - 1 + 1 = b := by omega
      rw [← hb', iN_sub1 (by omega), ih (i + 1) (b - 1) (by omega) (by omega) (by omega)]
      congr 6
      omega
    · have hh : (if s.2.1 66 i = 5 then if mIn (iN i) 40 = true then if s.2.1 67 i = a1 then if mIn (iN i) 40 = true then if s.2.1 71 i = a2 then R1 xs nx 216 62 [some (vR 1 (some 0)), some (vI a1), some (vI a2), some (vI (iN b)), some (vI (iN i))] [(vI (1 : Int32)), (vI (iN b))] s else R1 xs nx 216 61 [some (vR 1 (some 0)), some (vI a1), some (vI a2), some (vI (iN b)), some (vI (iN i))] [(vI (iN b))] s else none else R1 xs nx 216 61 [some (vR 1 (some 0)), some (vI a1), some (vI a2), some (vI (iN b)), some (vI (iN i))] [(vI (iN b))] s else none else R1 xs nx 216 61 [some (vR 1 (some 0)), some (vI a1), some (vI a2), some (vI (iN b)), some (vI (iN i))] [(vI (iN b))] s) = R1 xs nx 216 61 [some (vR 1 (some 0)), some (vI a1), some (vI a2), some (vI (iN b)), some (vI (iN i))] [(vI (iN b))] s := by
        by_cases h1 : s.2.1 66 i = 5
        · rw [if_pos h1, if_pos hin]
          by_cases h2 : s.2.1 67 i = a1
          · rw [if_pos h2, if_pos hin, if_neg (fun z => h ⟨h1, h2, z⟩)]
          · rw [if_neg h2]
        · rw [if_neg h1]
      rw [hh, d_216_61, d_216_62, iN_add1, step0]
      rw [if_neg (fun z => h (of_decide_eq_true z))] at hb ⊢
      exact ih (i + 1) b (by omega) hb hb1
theorem free216 {i : Nat} {c : nC} {m : nM} (hJ : nJ κ i c m) {l j : Nat} (hl : l < fN c 28) (h1 : 1 ≤ j) (h4 : j < 4) : ∀ s : nS, s.2.1 66 = m 66 → s.2.1 67 = m 67 → s.2.1 71 = m 71 → s.2.1 89 = m 89 → s.2.1 1 24 = m 1 24 →
    R1 xs nx 216 0 [some (vR 1 (some 0)), some (vI (iN l)), some (vI (iN j)), none, none] [] s = some (.inl (some (vI (fI c 7 l j))), s) := by
  intro s s1 s2 s3 s4 s5
  obtain ⟨q1, q2, q3⟩ := hJ.1.2.2.1
  have h5 := hJ.1.2.2.2.2.1.1
  obtain ⟨-, hx⟩ := hJ.2.2.2.2.2.2.2.2.2.2.2.2.1 l hl
  obtain ⟨⟨M, -, x1, x2⟩, ⟨F, -, x3, x4⟩, x5⟩ := hx j h1 h4
  have hle := cnt_le (p := fun x => decide (m 66 x = 5 ∧ m 67 x = iN l ∧ m 71 x = iN j)) (P := fN c 26)
  rw [x2, x4, show iN F + iN _ = iN (F + _) from i32_add, iN_inj (by omega) (by omega)] at x5
  have e4 : (4 : Int32) * iN l + iN j = iN (4 * l + j) := by
    rw [show (4 : Int32) = iN 4 from rfl, iN_mul]
    exact i32_add
  rw [d_216_0, e4, if_pos (mIn_iff.mpr ⟨i32_pos (by omega), by rw [i32_nat (by omega)]; omega⟩), i32_nat (by omega), s4, x2]
  have := loop216 (xs := xs) (nx := nx) (s := s) (a1 := iN l) (a2 := iN j) (by rw [s5]; exact q2) q1 (fN c 26) 0 M (Nat.zero_add _) (by rw [s1, s2, s3, ← List.range_eq_range']; omega) (by omega)
  rw [show (0 : Int32) = iN 0 from rfl, this, s1, s2, s3, ← List.range_eq_range', x4, x5, Nat.add_sub_cancel]
theorem op33 : ∀ i, i < 512 → ∀ (a1 a2 : Int32), nDoes κ pT pF i [(0, 1), (1, 2)] (fun s => R1 xs nx 153 0 [some (vR 0 (some 0)), some (vI a1), some (vI a2), none] [] s) (fun s => R1 xs nx 248 0 [some (vR 1 (some 0)), some (vI a1), some (vI a2)] [] s) := by
  intro i hi a1 a2 s hJ
  rcases idx233 (xs := xs) (nx := nx) hJ a1 with ⟨h1, h2⟩ | ⟨l, hl, ea, hin, en, h1, h2⟩
  · exact nFail (E := 0) (e := 1) (v := 0) hJ (by simp only [d_153_0, h1 s rfl, bR, hE]) (fun z => by simp only [d_248_0, h2 (s.1, s.2.1, z) rfl, bI, if_true, d_248_27, r172_1, n10, if_false]) rfl n10
  · rcases wi79 (xs := xs) (nx := nx) a2 1 3 with ⟨h3, h4, -⟩ | ⟨h3, h4, h5, h6⟩
    · exact nFail (E := 1) (e := 2) (v := 0) hJ (by simp only [d_153_0, h1 s rfl, bR, ntg_self, h3, bI, c80_0, bV, hE]) (fun z => by simp only [d_248_0, h2 (s.1, s.2.1, z) rfl, bI, n10, if_false, h4, if_true, d_248_27, r172_2]) rfl n20
    · obtain ⟨j, j1, j3, rfl⟩ := nIn_of (x := a2) (a := 1) (b := 3) (by decide) h5 h6
      subst ea
      refine nAsk (v := fI s.1 7 l j) hJ ?_ (fun z => ?_)
      · simp only [d_153_0, h1 s rfl, bR, ntg_self, h3, bI, c80_1, bV, nn_some]
        rw [d_53_0, if_neg (iN_pos (by omega)), if_pos (show iN j < (4 : Int32) from (iN_lt (b := 4) (by omega) (by omega)).mpr (by omega)), if_pos (iN_in (by omega) (by decide)), i32_nat (by omega)]
      · simp only [d_248_0, h2 (s.1, s.2.1, z) rfl, bI, n10, if_false, h4, d_248_27, r172_0, if_true]
        rw [free216 hJ hl j1 (by omega) (s.1, uM 1 76 0 s.2.1, z) (show uM 1 76 0 s.2.1 66 = _ from uM_ne (by decide)) (show uM 1 76 0 s.2.1 67 = _ from uM_ne (by decide)) (show uM 1 76 0 s.2.1 71 = _ from uM_ne (by decide)) (show uM 1 76 0 s.2.1 89 = _ from uM_ne (by decide)) (show uM 1 76 0 s.2.1 1 24 = _ from uM1_ne (by decide))]
/-- how many of a round are still there -/
theorem loop152 {s : nS} {a1 : Int32} {v : Nat} (hlen : (fL s.1 11 v).length < 1000) : ∀ (n i b : Nat), i + n = (fL s.1 11 v).length → R1 xs nx 152 11 [some (vR 0 (some 0)), some (vI a1), some (vR 27 (some v)), some (vI (iN b)), some (vI (iN i))] [] s = some (.inl (some (vI (iN (b + (((fL s.1 11 v).drop i).filter fun k => decide (fI s.1 9 k 0 = 4)).length)))), s) := by
  intro n
  induction n with
  | zero =>
    intro i b e
    rw [d_152_11, nn_some, if_neg (fun z => by have := (iN_lt (by omega) (by omega)).mp z; omega), List.drop_eq_nil_of_le (by omega)]
    rfl
  | succ n ih =>
    intro i b e
    have hi : i < (fL s.1 11 v).length := by omega
    rw [d_152_11, nn_some, if_pos ((iN_lt (by omega) (by omega)).mpr hi), nn_some, if_neg (iN_pos (by omega)), i32_nat (by omega), List.getElem?_eq_getElem hi, nn_some, List.drop_eq_getElem_cons hi, List.filter_cons]
    by_cases h : fI s.1 9 (fL s.1 11 v)[i] 0 = 4
    · rw [if_pos h, d_152_51, iN_add1, iN_add1, ih (i + 1) (b + 1) (by omega), if_pos (decide_eq_true h), List.length_cons]
      congr 6
      omega
    · rw [if_neg h, d_152_51, iN_add1, show iN b + 0 = iN b from i32_add (b := 0), ih (i + 1) b (by omega), if_neg (fun z => h (of_decide_eq_true z))]
theorem op32 : ∀ i, i < 512 → ∀ (a1 : Int32), nDoes κ pT pF i [(0, 1)] (fun s => R1 xs nx 152 0 [some (vR 0 (some 0)), some (vI a1), none, none, none] [] s) (fun s => R1 xs nx 247 0 [some (vR 1 (some 0)), some (vI a1)] [] s) := by
  intro i hi a1 s hJ
  rcases idx151 (xs := xs) (nx := nx) hJ a1 with ⟨h1, h2⟩ | ⟨v, hv, ea, hin, en, h1, h2⟩
  · exact nFail (E := 0) (e := 1) (v := 0) hJ (by simp only [d_152_0, h1 s rfl, bR, hE]) (fun z => by simp only [d_247_0, h2 (s.1, s.2.1, z) rfl, bI, if_true, d_247_20, r172_1, n10, if_false]) rfl n10
  · obtain ⟨q1, q2, q3⟩ := hJ.1.2.2.1
    obtain ⟨-, -, -, y4, -⟩ := hJ.2.2.2.2.2.2.2.2.2.2.2.1.1 v hv
    obtain ⟨r1, r2, r3, r4, r5, r6⟩ := y4 (by omega)
    have hS := hJ.2.2.2.2.2.2.2.1
    have hlen : ((fL s.1 11 v).filter fun k => decide (fI s.1 9 k 0 = 4)).length = ((List.range' 0 (fN s.1 26)).filter fun k => decide (s.2.1 66 k = 4 ∧ s.2.1 67 k = a1)).length := by
      refine List.Perm.length_eq ((List.perm_ext_iff_of_nodup (List.Pairwise.filter _ r3) (List.Pairwise.filter _ (List.nodup_range' (s := 0) (n := fN s.1 26)))).mpr fun k => ?_)
      rw [List.mem_filter, List.mem_filter, List.mem_range'_1]
      constructor
      · rintro ⟨y1, y2⟩
        obtain ⟨j, hj⟩ := List.getElem?_of_mem y1
        obtain ⟨w1, w2, w3, w4, w5⟩ := r6 j k hj
        have y2 := of_decide_eq_true y2
        rw [(hS k w1).1] at y2
        rcases w5 with w5 | w5
        · exact ⟨⟨Nat.zero_le _, by omega⟩, decide_eq_true ⟨w5.1, by rw [ea]; exact w5.2.1⟩⟩
        · rw [w5.1] at y2
          exact absurd y2 (by decide)
      · rintro ⟨⟨-, y1⟩, y2⟩
        obtain ⟨y2, y3⟩ := of_decide_eq_true y2
        have hk : k < fN s.1 26 := by omega
        refine ⟨r4 k hk y2 (by rw [← ea]; exact y3), decide_eq_true ?_⟩
        rw [(hS k hk).1]
        exact y2
    refine nAsk (v := iN ((fL s.1 11 v).filter fun k => decide (fI s.1 9 k 0 = 4)).length) hJ ?_ (fun z => ?_)
    · simp only [d_152_0, h1 s rfl, bR, ntg_self]
      have := loop152 (xs := xs) (nx := nx) (s := s) (a1 := a1) (v := v) (by omega) (fL s.1 11 v).length 0 0 (Nat.zero_add _)
      rw [Nat.zero_add, List.drop_zero] at this
      exact this
    · have hm := many206 (xs := xs) (nx := nx) (a1 := 4) (a2 := a1) (s := (s.1, uM 1 76 0 s.2.1, z)) (P := fN s.1 26) (by show uM 1 76 0 s.2.1 1 24 = _; rw [uM1_ne (by decide)]; exact q2) q1
      simp (disch := decide) only [uM_ne] at hm
      rw [hlen]
      simp only [d_247_0, h2 (s.1, s.2.1, z) rfl, bI, n10, if_false, d_247_20, r172_0, if_true, hm]
end OQA
end KAP
