/-! ===== questions: the rest, and what is refused: made by wip/p46/gen2/mk98zk.py ===== -/
section KAP
variable {κ : kP}
section ASKQ
variable {xs : Nat → Int32} {nx : Nat} {i : Nat} {c : nC} {m : nM} (w : nM × Nat × (Nat → Int64))
theorem tA144 {x : Int32} (h : R1 xs nx 97 0 [some (vR 0 (some 0)), some (vI x)] [] (c, w) = nTh 0 c w) : R1 xs nx 144 0 [some (vR 0 (some 0)), some (vI x)] [] (c, w) = nTh 0 c w := by
  rw [d_144_0, h]
  rfl
theorem tA148 {x : Int32} (h : R1 xs nx 97 0 [some (vR 0 (some 0)), some (vI x)] [] (c, w) = nTh 0 c w) : R1 xs nx 148 0 [some (vR 0 (some 0)), some (vI x), none, none, none] [] (c, w) = nTh 0 c w := by
  rw [d_148_0, h]
  rfl
theorem tA150 {x : Int32} (h : R1 xs nx 86 0 [some (vR 0 (some 0)), some (vI x)] [] (c, w) = nTh 0 c w) : R1 xs nx 150 0 [some (vR 0 (some 0)), some (vI x)] [] (c, w) = nTh 0 c w := by
  rw [d_150_0, h]
  rfl
theorem tA152 {x : Int32} (h : R1 xs nx 151 0 [some (vR 0 (some 0)), some (vI x)] [] (c, w) = nTh 0 c w) : R1 xs nx 152 0 [some (vR 0 (some 0)), some (vI x), none, none, none] [] (c, w) = nTh 0 c w := by
  rw [d_152_0, h]
  rfl
theorem tA153 {x : Int32} {b : Int32} (h : R1 xs nx 135 0 [some (vR 0 (some 0)), some (vI x)] [] (c, w) = nTh 0 c w) : R1 xs nx 153 0 [some (vR 0 (some 0)), some (vI x), some (vI b), none] [] (c, w) = nTh 0 c w := by
  rw [d_153_0, h]
  rfl
theorem tA162 {x : Int32} (h : R1 xs nx 78 0 [some (vR 0 (some 0)), some (vI x)] [] (c, w) = nTh 0 c w) : R1 xs nx 162 0 [some (vR 0 (some 0)), some (vI x), none, none, none] [] (c, w) = nTh 0 c w := by
  rw [d_162_0, h]
  rfl
theorem tA154 {x : Int32} (h : R1 xs nx 92 0 [some (vR 0 (some 0)), some (vI x)] [] (c, w) = nTh 0 c w) : R1 xs nx 154 0 [some (vR 0 (some 0)), some (vI x)] [] (c, w) = nTh 0 c w := by
  rw [d_154_0, h]
  rfl
theorem tA155 {x : Int32} (h : R1 xs nx 78 0 [some (vR 0 (some 0)), some (vI x)] [] (c, w) = nTh 0 c w) : R1 xs nx 155 0 [some (vR 0 (some 0)), some (vI x), none, none, none, none] [] (c, w) = nTh 0 c w := by
  rw [d_155_0, h]
  rfl
theorem tA146 {x : Int32} {b : Int32} (h : R1 xs nx 97 0 [some (vR 0 (some 0)), some (vI x)] [] (c, w) = nTh 0 c w) : R1 xs nx 146 0 [some (vR 0 (some 0)), some (vI x), some (vI b), none] [] (c, w) = nTh 0 c w := by
  rw [d_146_0, h]
  rfl
theorem tA161 {x : Int32} (h : R1 xs nx 97 0 [some (vR 0 (some 0)), some (vI x)] [] (c, w) = nTh 0 c w) : R1 xs nx 161 0 [some (vR 0 (some 0)), some (vI x), none, none, none, none, none, none] [] (c, w) = nTh 0 c w := by
  rw [d_161_0, h]
  rfl
theorem tA159 {x : Int32} {b : Int32} (h : R1 xs nx 97 0 [some (vR 0 (some 0)), some (vI x)] [] (c, w) = nTh 0 c w) : R1 xs nx 159 0 [some (vR 0 (some 0)), some (vI x), some (vI b), none, none, none, none, none] [] (c, w) = nTh 0 c w := by
  rw [d_159_0, h]
  rfl
theorem tA169 {x : Int32} (h : R1 xs nx 97 0 [some (vR 0 (some 0)), some (vI x)] [] (c, w) = nTh 0 c w) : R1 xs nx 169 0 [some (vR 0 (some 0)), some (vI x), none] [] (c, w) = nTh 0 c w := by
  rw [d_169_0, h]
  rfl
theorem tA147 : R1 xs nx 147 0 [some (vR 0 (some 0)), some (vI 9), none, none] [] (c, w) = nTh 1 c w := by
  simp only [d_147_0, p79n (x := 9) (a := 0) (b := 8) (Or.inr (by decide)), bI, c80_0, bV, hE] <;> rfl
theorem tA146b (hJ : nJ κ i c m) (h : 0 < fN c 26) : R1 xs nx 146 0 [some (vR 0 (some 0)), some (vI 0), some (vI 8), none] [] (c, w) = nTh 1 c w := by
  have h0 := p97 (xs := xs) (nx := nx) w hJ h
  rw [show (iN 0 : Int32) = 0 from rfl] at h0
  simp only [d_146_0, h0, bR, ntg_self, p79n (x := 8) (a := 0) (b := 7) (Or.inr (by decide)), bI, c80_0, bV, hE] <;> rfl
theorem tA158 (hJ : nJ κ i c m) : R1 xs nx 158 0 [some (vR 0 (some 0)), some (vI (iN (fL c 19 0).length)), some (vI 0), none] [] (c, w) = nTh 0 c w := by
  have h4 := (nJ_69 hJ).2
  have hlt : iN (fL c 19 0).length - 1 < iN (fL c 19 0).length := by
    show iN (fL c 19 0).length - iN 1 < iN (fL c 19 0).length
    rw [Int32.lt_iff_toInt_lt, iN_subI (by omega) (by omega), iN_toInt (by omega)]
    omega
  simp only [d_158_0, p79n (x := iN (fL c 19 0).length) (a := 0) (b := iN (fL c 19 0).length - 1) (Or.inr hlt), bI, d_157_0, if_true, bV, hE] <;> rfl
theorem tA158b (hJ : nJ κ i c m) (h : 0 < (fL c 19 0).length) : R1 xs nx 158 0 [some (vR 0 (some 0)), some (vI 0), some (vI 4), none] [] (c, w) = nTh 1 c w := by
  have h4 := (nJ_69 hJ).2
  have hn : ¬ iN (fL c 19 0).length - 1 < 0 := by
    show ¬ iN (fL c 19 0).length - iN 1 < iN 0
    rw [Int32.lt_iff_toInt_lt, iN_subI (by omega) (by omega), iN_toInt (by omega)]
    omega
  simp only [d_158_0, p79y (x := 0) (a := 0) (b := iN (fL c 19 0).length - 1) (by decide) hn, bI, d_157_0, n10, if_false, bV, p79n (x := 4) (a := 0) (b := 3) (Or.inr (by decide)), c80_0, hE] <;> rfl
theorem tA159n (hJ : nJ κ i c m) {k : Nat} (hk : k < fN c 26) : R1 xs nx 159 0 [some (vR 0 (some 0)), some (vI (iN k)), some (vI (-1)), none, none, none, none, none] [] (c, w) = nTh 0 c w := by
  simp only [d_159_0, p97 w hJ hk, bR, ntg_self, show (-1 : Int32) < 0 by decide, if_true, d_159_15, d_157_0, bV, hE] <;> rfl
/-- how many are on a van -/
theorem q152 (hJ : nJ κ i c m) (hi : i / 100000 = 0) {v : Nat} (hv : v < fN c 27) : R1 xs nx 152 0 [some (vR 0 (some 0)), some (vI (iN v)), none, none, none] [] (c, w) = nVl (iN (nCnt (fN c 26) fun k => decide (m 66 k = 4 ∧ m 67 k = iN v))) c w := by
  obtain ⟨q1, q2, q3⟩ := hJ.1.2.2.1
  obtain ⟨-, -, -, y4, -⟩ := hJ.2.2.2.2.2.2.2.2.2.2.2.1.1 v hv
  obtain ⟨r1, r2, r3, r4, r5, r6⟩ := y4 (by omega)
  have hS := hJ.2.2.2.2.2.2.2.1
  have hlen : ((fL c 11 v).filter fun k => decide (fI c 9 k 0 = 4)).length = nCnt (fN c 26) fun k => decide (m 66 k = 4 ∧ m 67 k = iN v) := by
    unfold nCnt
    refine List.Perm.length_eq ((List.perm_ext_iff_of_nodup (List.Pairwise.filter _ r3) (List.Pairwise.filter _ (List.nodup_range' (s := 0) (n := fN c 26)))).mpr fun k => ?_)
    rw [List.mem_filter, List.mem_filter, List.mem_range'_1]
    constructor
    · rintro ⟨y1, y2⟩
      obtain ⟨j, hj⟩ := List.getElem?_of_mem y1
      obtain ⟨w1, w2, w3, w4, w5⟩ := r6 j k hj
      have y2 := of_decide_eq_true y2
      rw [(hS k w1).1] at y2
      rcases w5 with w5 | w5
      · exact ⟨⟨Nat.zero_le _, by omega⟩, decide_eq_true ⟨w5.1, w5.2.1⟩⟩
      · rw [w5.1] at y2
        exact absurd y2 (by decide)
    · rintro ⟨⟨-, y1⟩, y2⟩
      obtain ⟨y2, y3⟩ := of_decide_eq_true y2
      have hk : k < fN c 26 := by omega
      refine ⟨r4 k hk y2 y3, decide_eq_true ?_⟩
      rw [(hS k hk).1]
      exact y2
  rw [← hlen]
  simp only [d_152_0, p151 w hJ hv, bR, ntg_self]
  have := loop152 (xs := xs) (nx := nx) (s := (c, w)) (a1 := iN v) (v := v) (by show (fL c 11 v).length < 1000; omega) (fL c 11 v).length 0 0 (Nat.zero_add _)
  rw [Nat.zero_add, List.drop_zero] at this
  exact this
/-- the place in a row -/
theorem q148 (hJ : nJ κ i c m) {k : Nat} (hk : k < fN c 26) :
    (m 66 k = 0 → ∃ d n, d < 5 ∧ m 67 k = iN d ∧ (fL c 3 d)[n]? = some k ∧ R1 xs nx 148 0 [some (vR 0 (some 0)), some (vI (iN k)), none, none, none] [] (c, w) = nVl (iN n) c w) ∧
    (m 66 k = 1 → ∃ l n, l < fN c 23 ∧ m 67 k = iN l ∧ (fL c 5 l)[n]? = some k ∧ R1 xs nx 148 0 [some (vR 0 (some 0)), some (vI (iN k)), none, none, none] [] (c, w) = nVl (iN n) c w) ∧
    (¬ m 66 k = 0 → ¬ m 66 k = 1 → R1 xs nx 148 0 [some (vR 0 (some 0)), some (vI (iN k)), none, none, none] [] (c, w) = nVl (-1) c w) := by
  obtain ⟨q1, q2, q3⟩ := hJ.1.2.2.1
  obtain ⟨e0, n0, hn0, en0⟩ := kind8 hJ hk
  obtain ⟨g1, g2, -⟩ := hJ.2.2.2.2.2.2.2.2.2.1
  obtain ⟨-, -, -, -, y⟩ := hJ.2.2.2.2.2.2.2.1 k hk
  refine ⟨fun k0 => ?_, fun k1 => ?_, fun k0 k1 => ?_⟩
  · obtain ⟨d, hd, y1, y2⟩ : ∃ d, d < 5 ∧ m 67 k = iN d ∧ fQ c k = some (3, d) := by
      rcases y with ⟨z, d, z1, z2, z3, z4, -⟩ | ⟨z, -⟩ | ⟨z, -⟩ | ⟨z, -⟩ | ⟨z, -⟩ | ⟨z, -⟩ | ⟨z, -⟩ | ⟨z, -⟩ | ⟨z, -⟩
      · exact ⟨d, z1, z2, z4⟩
      all_goals (rw [k0] at z; exact absurd z (by decide))
    have hL := g1 d hd
    have hmem : k ∈ fL c 3 d := (hL.1 k).mpr ⟨hk, k0, y1⟩
    obtain ⟨n, n1, n2, -⟩ := fst_ix k _ hmem
    have hlen := nLin_le hL
    refine ⟨d, n, hd, y1, n1, ?_⟩
    have hx := ix56 (xs := xs) (nx := nx) (s := (c, w)) (t := 3) (l := d) rfl n1 n2 (by show (fL c 3 d).length < 1000; omega) n 0 (Nat.zero_add _)
    simp only [d_148_0, p97 w hJ hk, bR, ntg_self, nn_some, e0, k0, if_true, d_148_35, d_148_40, n10, if_false, y2]
    show bI (R1 xs nx 56 0 [some (vL (some (3, d))), some (vR 26 (some k)), none] [] (c, w)) _ _ = _
    rw [d_56_0, show (0 : Int32) = iN 0 from rfl, hx]
    rfl
  · obtain ⟨d, hd, y1, y2⟩ : ∃ d, d < fN c 23 ∧ m 67 k = iN d ∧ fQ c k = some (5, d) := by
      rcases y with ⟨z, -⟩ | ⟨z, d, z1, z2, z3, z4, -⟩ | ⟨z, -⟩ | ⟨z, -⟩ | ⟨z, -⟩ | ⟨z, -⟩ | ⟨z, -⟩ | ⟨z, -⟩ | ⟨z, -⟩
      rotate_left
      · exact ⟨d, z1, z2, z4⟩
      all_goals (rw [k1] at z; exact absurd z (by decide))
    have hL := g2 d hd
    have hmem : k ∈ fL c 5 d := (hL.1 k).mpr ⟨hk, k1, y1⟩
    obtain ⟨n, n1, n2, -⟩ := fst_ix k _ hmem
    have hlen := nLin_le hL
    refine ⟨d, n, hd, y1, n1, ?_⟩
    have hx := ix56 (xs := xs) (nx := nx) (s := (c, w)) (t := 5) (l := d) rfl n1 n2 (by show (fL c 5 d).length < 1000; omega) n 0 (Nat.zero_add _)
    simp only [d_148_0, p97 w hJ hk, bR, ntg_self, nn_some, e0, k1, if_true, d_148_35, d_148_40, n10, if_false, y2]
    show bI (R1 xs nx 56 0 [some (vL (some (5, d))), some (vR 26 (some k)), none] [] (c, w)) _ _ = _
    rw [d_56_0, show (0 : Int32) = iN 0 from rfl, hx]
    rfl
  · simp only [d_148_0, p97 w hJ hk, bR, ntg_self, nn_some, e0, k0, k1, if_false, d_148_40, if_true, nVl]
/-- the way by scans -/
theorem q159 (hJ : nJ κ i c m) {k p : Nat} (hk : k < fN c 26) (hp : p < 2 ^ 31) : R1 xs nx 159 0 [some (vR 0 (some 0)), some (vI (iN k)), some (vI (iN p)), none, none, none, none, none] [] (c, w) = nVl (wy ((fL c 10 k).map fun e => fX c 25 e 1) none 0 p) c w := by
  have hl := len10 hJ hk
  simp only [d_159_0, p97 w hJ hk, bR, ntg_self, iN_pos hp, if_false, d_159_15, d_157_0, n10, bV]
  have := way159 (xs := xs) (nx := nx) (s := (c, w)) (a1 := iN k) (k := k) hp (by show (fL c 10 k).length < 1000; omega) (fL c 10 k).length 0 0 none none (Nat.zero_add _) (by omega)
  rw [List.drop_zero] at this
  exact this
theorem q161 (hJ : nJ κ i c m) {k : Nat} (hk : k < fN c 26) : R1 xs nx 161 0 [some (vR 0 (some 0)), some (vI (iN k)), none, none, none, none, none, none] [] (c, w) = nVl (wrF c (fL c 10 k) none 0) c w := by
  have hl := len10 hJ hk
  simp only [d_161_0, p97 w hJ hk, bR, ntg_self]
  cases hS : fL c 10 k with
  | nil =>
    rw [d_161_11, nn_some]
    dsimp only
    rw [hS, if_neg (by decide)]
    rfl
  | cons a L =>
    have := wr161 (xs := xs) (nx := nx) hJ (s := (c, w)) rfl (a1 := iN k) (k := k) hl ((fL c 10 k).length - 1) 0 0 none none none a (by rw [hS]; simp only [List.length_cons]; omega) (by rw [hS]; rfl) (Nat.le_refl _)
    rw [hS] at this
    exact this
theorem q163 (hJ : nJ κ i c m) {d : Nat} (hd : d < 5) : R1 xs nx 163 0 [some (vR 0 (some 0)), some (vI (iN d)), none, none, none, none] [] (c, w) = nVl (nAcc (sbs c d) (fN c 26) 0 0) c w := by
  obtain ⟨q1, q2, q3⟩ := hJ.1.2.2.1
  simp only [d_163_0, p78 hd, bR, ntg_self]
  exact sbs163 (s := (c, w)) q3 q1 (fun k hk => by have := len10 hJ hk; show (fL c 10 k).length < 1000; omega) (fN c 26) 0 0 _ (Nat.zero_add _)
theorem ask0 {r : Option nOut} {K : Int32 → nS → Option nOut} (h : r = nTh 0 c w) : bI r K (nHq [(0, -3000000), (1, -2000000)]) = nVl (-3000000) c (w.1, w.2.1 + 1, w.2.2) := by
  rw [h]
  rfl
theorem ask1 {r : Option nOut} {K : Int32 → nS → Option nOut} (h : r = nTh 1 c w) : bI r K (nHq [(0, -3000000), (1, -2000000)]) = nVl (-2000000) c (w.1, w.2.1 + 1, w.2.2) := by
  rw [h]
  rfl
theorem asks0 (a b : Int32) (s : nS) : R1 xs nx 2 0 [some (vR 0 (some 0)), some (vI 0), some (vI a), some (vI b), none] [] s = bI (R1 xs nx 144 0 [some (vR 0 (some 0)), some (vI a)] [] s) (fun x s => some (.inl (some (vI x)), s)) (nHq [(0, -3000000), (1, -2000000)]) := by
  rw [e_2_0, if_pos rfl, hxq2 (by decide)]
theorem asks2 (a b : Int32) (s : nS) : R1 xs nx 2 0 [some (vR 0 (some 0)), some (vI 2), some (vI a), some (vI b), none] [] s = bI (R1 xs nx 146 0 [some (vR 0 (some 0)), some (vI a), some (vI b), none] [] s) (fun x s => some (.inl (some (vI x)), s)) (nHq [(0, -3000000), (1, -2000000)]) := by
  rw [e_2_0, if_neg (show ¬ (2 : Int32) = 0 by decide), if_neg (show ¬ (2 : Int32) = 1 by decide), if_pos rfl, hxq2 (by decide)]
theorem asks3 (a b : Int32) (s : nS) : R1 xs nx 2 0 [some (vR 0 (some 0)), some (vI 3), some (vI a), some (vI b), none] [] s = bI (R1 xs nx 147 0 [some (vR 0 (some 0)), some (vI a), none, none] [] s) (fun x s => some (.inl (some (vI x)), s)) (nHq [(0, -3000000), (1, -2000000)]) := by
  rw [e_2_0, if_neg (show ¬ (3 : Int32) = 0 by decide), if_neg (show ¬ (3 : Int32) = 1 by decide), if_neg (show ¬ (3 : Int32) = 2 by decide), if_pos rfl, hxq2 (by decide)]
theorem asks4 (a b : Int32) (s : nS) : R1 xs nx 2 0 [some (vR 0 (some 0)), some (vI 4), some (vI a), some (vI b), none] [] s = bI (R1 xs nx 148 0 [some (vR 0 (some 0)), some (vI a), none, none, none] [] s) (fun x s => some (.inl (some (vI x)), s)) (nHq [(0, -3000000), (1, -2000000)]) := by
  rw [e_2_0, if_neg (show ¬ (4 : Int32) = 0 by decide), if_neg (show ¬ (4 : Int32) = 1 by decide), if_neg (show ¬ (4 : Int32) = 2 by decide), if_neg (show ¬ (4 : Int32) = 3 by decide), if_pos rfl, hxq2 (by decide)]
theorem asks6 (a b : Int32) (s : nS) : R1 xs nx 2 0 [some (vR 0 (some 0)), some (vI 6), some (vI a), some (vI b), none] [] s = bI (R1 xs nx 150 0 [some (vR 0 (some 0)), some (vI a)] [] s) (fun x s => some (.inl (some (vI x)), s)) (nHq [(0, -3000000), (1, -2000000)]) := by
  rw [e_2_0, if_neg (show ¬ (6 : Int32) = 0 by decide), if_neg (show ¬ (6 : Int32) = 1 by decide), if_neg (show ¬ (6 : Int32) = 2 by decide), if_neg (show ¬ (6 : Int32) = 3 by decide), if_neg (show ¬ (6 : Int32) = 4 by decide), if_neg (show ¬ (6 : Int32) = 5 by decide), if_pos rfl, hxq2 (by decide)]
theorem asks7 (a b : Int32) (s : nS) : R1 xs nx 2 0 [some (vR 0 (some 0)), some (vI 7), some (vI a), some (vI b), none] [] s = bI (R1 xs nx 152 0 [some (vR 0 (some 0)), some (vI a), none, none, none] [] s) (fun x s => some (.inl (some (vI x)), s)) (nHq [(0, -3000000), (1, -2000000)]) := by
  rw [e_2_0, if_neg (show ¬ (7 : Int32) = 0 by decide), if_neg (show ¬ (7 : Int32) = 1 by decide), if_neg (show ¬ (7 : Int32) = 2 by decide), if_neg (show ¬ (7 : Int32) = 3 by decide), if_neg (show ¬ (7 : Int32) = 4 by decide), if_neg (show ¬ (7 : Int32) = 5 by decide), if_neg (show ¬ (7 : Int32) = 6 by decide), if_pos rfl, hxq2 (by decide)]
theorem asks8 (a b : Int32) (s : nS) : R1 xs nx 2 0 [some (vR 0 (some 0)), some (vI 8), some (vI a), some (vI b), none] [] s = bI (R1 xs nx 153 0 [some (vR 0 (some 0)), some (vI a), some (vI b), none] [] s) (fun x s => some (.inl (some (vI x)), s)) (nHq [(0, -3000000), (1, -2000000)]) := by
  rw [e_2_0, if_neg (show ¬ (8 : Int32) = 0 by decide), if_neg (show ¬ (8 : Int32) = 1 by decide), if_neg (show ¬ (8 : Int32) = 2 by decide), if_neg (show ¬ (8 : Int32) = 3 by decide), if_neg (show ¬ (8 : Int32) = 4 by decide), if_neg (show ¬ (8 : Int32) = 5 by decide), if_neg (show ¬ (8 : Int32) = 6 by decide), if_neg (show ¬ (8 : Int32) = 7 by decide), if_pos rfl, hxq2 (by decide)]
theorem asks9 (a b : Int32) (s : nS) : R1 xs nx 2 0 [some (vR 0 (some 0)), some (vI 9), some (vI a), some (vI b), none] [] s = bI (R1 xs nx 154 0 [some (vR 0 (some 0)), some (vI a)] [] s) (fun x s => some (.inl (some (vI x)), s)) (nHq [(0, -3000000), (1, -2000000)]) := by
  rw [e_2_0, if_neg (show ¬ (9 : Int32) = 0 by decide), if_neg (show ¬ (9 : Int32) = 1 by decide), if_neg (show ¬ (9 : Int32) = 2 by decide), if_neg (show ¬ (9 : Int32) = 3 by decide), if_neg (show ¬ (9 : Int32) = 4 by decide), if_neg (show ¬ (9 : Int32) = 5 by decide), if_neg (show ¬ (9 : Int32) = 6 by decide), if_neg (show ¬ (9 : Int32) = 7 by decide), if_neg (show ¬ (9 : Int32) = 8 by decide), if_pos rfl, hxq2 (by decide)]
theorem asks10 (a b : Int32) (s : nS) : R1 xs nx 2 0 [some (vR 0 (some 0)), some (vI 10), some (vI a), some (vI b), none] [] s = bI (R1 xs nx 155 0 [some (vR 0 (some 0)), some (vI a), none, none, none, none] [] s) (fun x s => some (.inl (some (vI x)), s)) (nHq [(0, -3000000), (1, -2000000)]) := by
  rw [e_2_0, if_neg (show ¬ (10 : Int32) = 0 by decide), if_neg (show ¬ (10 : Int32) = 1 by decide), if_neg (show ¬ (10 : Int32) = 2 by decide), if_neg (show ¬ (10 : Int32) = 3 by decide), if_neg (show ¬ (10 : Int32) = 4 by decide), if_neg (show ¬ (10 : Int32) = 5 by decide), if_neg (show ¬ (10 : Int32) = 6 by decide), if_neg (show ¬ (10 : Int32) = 7 by decide), if_neg (show ¬ (10 : Int32) = 8 by decide), if_neg (show ¬ (10 : Int32) = 9 by decide), if_pos rfl, hxq2 (by decide)]
theorem asks11 (a b : Int32) (s : nS) : R1 xs nx 2 0 [some (vR 0 (some 0)), some (vI 11), some (vI a), some (vI b), none] [] s = bI (R1 xs nx 158 0 [some (vR 0 (some 0)), some (vI a), some (vI b), none] [] s) (fun x s => some (.inl (some (vI x)), s)) (nHq [(0, -3000000), (1, -2000000)]) := by
  rw [e_2_0, if_neg (show ¬ (11 : Int32) = 0 by decide), if_neg (show ¬ (11 : Int32) = 1 by decide), if_neg (show ¬ (11 : Int32) = 2 by decide), if_neg (show ¬ (11 : Int32) = 3 by decide), if_neg (show ¬ (11 : Int32) = 4 by decide), if_neg (show ¬ (11 : Int32) = 5 by decide), if_neg (show ¬ (11 : Int32) = 6 by decide), if_neg (show ¬ (11 : Int32) = 7 by decide), if_neg (show ¬ (11 : Int32) = 8 by decide), if_neg (show ¬ (11 : Int32) = 9 by decide), if_neg (show ¬ (11 : Int32) = 10 by decide), if_pos rfl, hxq2 (by decide)]
theorem asks12 (a b : Int32) (s : nS) : R1 xs nx 2 0 [some (vR 0 (some 0)), some (vI 12), some (vI a), some (vI b), none] [] s = bI (R1 xs nx 159 0 [some (vR 0 (some 0)), some (vI a), some (vI b), none, none, none, none, none] [] s) (fun x s => some (.inl (some (vI x)), s)) (nHq [(0, -3000000), (1, -2000000)]) := by
  rw [e_2_0, if_neg (show ¬ (12 : Int32) = 0 by decide), if_neg (show ¬ (12 : Int32) = 1 by decide), if_neg (show ¬ (12 : Int32) = 2 by decide), if_neg (show ¬ (12 : Int32) = 3 by decide), if_neg (show ¬ (12 : Int32) = 4 by decide), if_neg (show ¬ (12 : Int32) = 5 by decide), if_neg (show ¬ (12 : Int32) = 6 by decide), if_neg (show ¬ (12 : Int32) = 7 by decide), if_neg (show ¬ (12 : Int32) = 8 by decide), if_neg (show ¬ (12 : Int32) = 9 by decide), if_neg (show ¬ (12 : Int32) = 10 by decide), if_neg (show ¬ (12 : Int32) = 11 by decide), if_pos rfl, hxq2 (by decide)]
theorem asks13 (a b : Int32) (s : nS) : R1 xs nx 2 0 [some (vR 0 (some 0)), some (vI 13), some (vI a), some (vI b), none] [] s = bI (R1 xs nx 161 0 [some (vR 0 (some 0)), some (vI a), none, none, none, none, none, none] [] s) (fun x s => some (.inl (some (vI x)), s)) (nHq [(0, -3000000), (1, -2000000)]) := by
  rw [e_2_0, if_neg (show ¬ (13 : Int32) = 0 by decide), if_neg (show ¬ (13 : Int32) = 1 by decide), if_neg (show ¬ (13 : Int32) = 2 by decide), if_neg (show ¬ (13 : Int32) = 3 by decide), if_neg (show ¬ (13 : Int32) = 4 by decide), if_neg (show ¬ (13 : Int32) = 5 by decide), if_neg (show ¬ (13 : Int32) = 6 by decide), if_neg (show ¬ (13 : Int32) = 7 by decide), if_neg (show ¬ (13 : Int32) = 8 by decide), if_neg (show ¬ (13 : Int32) = 9 by decide), if_neg (show ¬ (13 : Int32) = 10 by decide), if_neg (show ¬ (13 : Int32) = 11 by decide), if_neg (show ¬ (13 : Int32) = 12 by decide), if_pos rfl, hxq2 (by decide)]
theorem asks14 (a b : Int32) (s : nS) : R1 xs nx 2 0 [some (vR 0 (some 0)), some (vI 14), some (vI a), some (vI b), none] [] s = bI (R1 xs nx 162 0 [some (vR 0 (some 0)), some (vI a), none, none, none] [] s) (fun x s => some (.inl (some (vI x)), s)) (nHq [(0, -3000000), (1, -2000000)]) := by
  rw [e_2_0, if_neg (show ¬ (14 : Int32) = 0 by decide), if_neg (show ¬ (14 : Int32) = 1 by decide), if_neg (show ¬ (14 : Int32) = 2 by decide), if_neg (show ¬ (14 : Int32) = 3 by decide), if_neg (show ¬ (14 : Int32) = 4 by decide), if_neg (show ¬ (14 : Int32) = 5 by decide), if_neg (show ¬ (14 : Int32) = 6 by decide), if_neg (show ¬ (14 : Int32) = 7 by decide), if_neg (show ¬ (14 : Int32) = 8 by decide), if_neg (show ¬ (14 : Int32) = 9 by decide), if_neg (show ¬ (14 : Int32) = 10 by decide), if_neg (show ¬ (14 : Int32) = 11 by decide), if_neg (show ¬ (14 : Int32) = 12 by decide), if_neg (show ¬ (14 : Int32) = 13 by decide), if_pos rfl, hxq2 (by decide)]
theorem asks16 (a b : Int32) (s : nS) : R1 xs nx 2 0 [some (vR 0 (some 0)), some (vI 16), some (vI a), some (vI b), none] [] s = bI (R1 xs nx 169 0 [some (vR 0 (some 0)), some (vI a), none] [] s) (fun x s => some (.inl (some (vI x)), s)) (nHq [(0, -3000000), (1, -2000000)]) := by
  rw [e_2_0, if_neg (show ¬ (16 : Int32) = 0 by decide), if_neg (show ¬ (16 : Int32) = 1 by decide), if_neg (show ¬ (16 : Int32) = 2 by decide), if_neg (show ¬ (16 : Int32) = 3 by decide), if_neg (show ¬ (16 : Int32) = 4 by decide), if_neg (show ¬ (16 : Int32) = 5 by decide), if_neg (show ¬ (16 : Int32) = 6 by decide), if_neg (show ¬ (16 : Int32) = 7 by decide), if_neg (show ¬ (16 : Int32) = 8 by decide), if_neg (show ¬ (16 : Int32) = 9 by decide), if_neg (show ¬ (16 : Int32) = 10 by decide), if_neg (show ¬ (16 : Int32) = 11 by decide), if_neg (show ¬ (16 : Int32) = 12 by decide), if_neg (show ¬ (16 : Int32) = 13 by decide), if_neg (show ¬ (16 : Int32) = 14 by decide), if_neg (show ¬ (16 : Int32) = 15 by decide), hxq2 (by decide)]
end ASKQ
end KAP
