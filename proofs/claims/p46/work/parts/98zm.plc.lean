/-! ===== arePlaces: what is told of the table: made by wip/p46/gen2/mk98zm.py ===== -/
section KAP
variable {κ : kP}
section PLM
variable {xs : Nat → Int32} {nx : Nat} {i : Nat} {c : nC} {m a : nM} {q : Nat} {J : Nat → Int64}
theorem plSr (hJ : nJ κ i c m) {k : Nat} (hk : k < fN c 26) :
    (m 66 k = 0 ∧ ∃ d, d < 5 ∧ m 67 k = iN d ∧ plS m k = 52 + d) ∨ (m 66 k = 1 ∧ ∃ d, d < 12 ∧ m 67 k = iN d ∧ plS m k = 10 + d) ∨ (m 66 k = 2 ∧ ∃ d, d < 12 ∧ m 67 k = iN d ∧ plS m k = 24 + d) ∨
    (m 66 k = 4 ∧ ∃ d, d < 6 ∧ m 67 k = iN d ∧ plS m k = 36 + d) ∨ (m 66 k = 5 ∧ ∃ d, d < 5 ∧ m 67 k = iN d ∧ plS m k = 42 + d) ∨ ((¬ m 66 k = 0 ∧ ¬ m 66 k = 1 ∧ ¬ m 66 k = 2 ∧ ¬ m 66 k = 4 ∧ ¬ m 66 k = 5) ∧ plS m k = 64) := by
  have h23 := hJ.1.1.1
  have h27 := hJ.1.2.2.2.1.1
  have h28 := hJ.1.2.2.2.2.1.1
  unfold plS plA
  rcases plSt hJ hk with ⟨z, d, hd, h7, h3⟩ | ⟨z, d, hd, h7, h3⟩ | ⟨z, d, hd, h7, h3⟩ | ⟨z, d, hd, h7, h3⟩ | ⟨z, d, hd, h7, h3⟩ | ⟨z, d, hd, h7, h3, hcd⟩ | ⟨z, d, hd, h7, h3⟩ | ⟨z, h7, h3⟩ | ⟨z, h7, h3⟩
  · exact Or.inl ⟨z, d, by omega, h7, by rw [if_pos z, h7, i32_nat (show d < 2 ^ 31 by omega)]⟩
  · exact Or.inr (Or.inl ⟨z, d, by omega, h7, by rw [if_neg (show ¬ m 66 k = 0 by rw [z]; decide), if_pos z, h7, i32_nat (show d < 2 ^ 31 by omega)]⟩)
  · exact Or.inr (Or.inr (Or.inl ⟨z, d, by omega, h7, by rw [if_neg (show ¬ m 66 k = 0 by rw [z]; decide), if_neg (show ¬ m 66 k = 1 by rw [z]; decide), if_pos z, h7, i32_nat (show d < 2 ^ 31 by omega)]⟩))
  · exact Or.inr (Or.inr (Or.inr (Or.inr (Or.inr (⟨⟨by rw [z]; decide, by rw [z]; decide, by rw [z]; decide, by rw [z]; decide, by rw [z]; decide⟩, by rw [if_neg (show ¬ m 66 k = 0 by rw [z]; decide), if_neg (show ¬ m 66 k = 1 by rw [z]; decide), if_neg (show ¬ m 66 k = 2 by rw [z]; decide), if_neg (show ¬ m 66 k = 4 by rw [z]; decide), if_neg (show ¬ m 66 k = 5 by rw [z]; decide)]⟩)))))
  · exact Or.inr (Or.inr (Or.inr (Or.inl ⟨z, d, by omega, h7, by rw [if_neg (show ¬ m 66 k = 0 by rw [z]; decide), if_neg (show ¬ m 66 k = 1 by rw [z]; decide), if_neg (show ¬ m 66 k = 2 by rw [z]; decide), if_pos z, h7, i32_nat (show d < 2 ^ 31 by omega)]⟩)))
  · exact Or.inr (Or.inr (Or.inr (Or.inr (Or.inl ⟨z, d, by omega, h7, by rw [if_neg (show ¬ m 66 k = 0 by rw [z]; decide), if_neg (show ¬ m 66 k = 1 by rw [z]; decide), if_neg (show ¬ m 66 k = 2 by rw [z]; decide), if_neg (show ¬ m 66 k = 4 by rw [z]; decide), if_pos z, h7, i32_nat (show d < 2 ^ 31 by omega)]⟩))))
  · exact Or.inr (Or.inr (Or.inr (Or.inr (Or.inr (⟨⟨by rw [z]; decide, by rw [z]; decide, by rw [z]; decide, by rw [z]; decide, by rw [z]; decide⟩, by rw [if_neg (show ¬ m 66 k = 0 by rw [z]; decide), if_neg (show ¬ m 66 k = 1 by rw [z]; decide), if_neg (show ¬ m 66 k = 2 by rw [z]; decide), if_neg (show ¬ m 66 k = 4 by rw [z]; decide), if_neg (show ¬ m 66 k = 5 by rw [z]; decide)]⟩)))))
  · exact Or.inr (Or.inr (Or.inr (Or.inr (Or.inr (⟨⟨by rw [z]; decide, by rw [z]; decide, by rw [z]; decide, by rw [z]; decide, by rw [z]; decide⟩, by rw [if_neg (show ¬ m 66 k = 0 by rw [z]; decide), if_neg (show ¬ m 66 k = 1 by rw [z]; decide), if_neg (show ¬ m 66 k = 2 by rw [z]; decide), if_neg (show ¬ m 66 k = 4 by rw [z]; decide), if_neg (show ¬ m 66 k = 5 by rw [z]; decide)]⟩)))))
  · exact Or.inr (Or.inr (Or.inr (Or.inr (Or.inr (⟨⟨by rw [z]; decide, by rw [z]; decide, by rw [z]; decide, by rw [z]; decide, by rw [z]; decide⟩, by rw [if_neg (show ¬ m 66 k = 0 by rw [z]; decide), if_neg (show ¬ m 66 k = 1 by rw [z]; decide), if_neg (show ¬ m 66 k = 2 by rw [z]; decide), if_neg (show ¬ m 66 k = 4 by rw [z]; decide), if_neg (show ¬ m 66 k = 5 by rw [z]; decide)]⟩)))))
theorem plX0 (hJ : nJ κ i c m) {k : Nat} (hk : k < fN c 26) {l : Nat} (hl : l < 5) : (if 52 + l = plS m k then plI c m k else 0) = if m 66 k = 0 ∧ m 67 k = iN l then 1 + 1000 * ixL k (fL c 3 l) else 0 := by
  rcases plSr hJ hk with ⟨z, d, hd, h7, h3⟩ | ⟨z, d, hd, h7, h3⟩ | ⟨z, d, hd, h7, h3⟩ | ⟨z, d, hd, h7, h3⟩ | ⟨z, d, hd, h7, h3⟩ | ⟨⟨z0, z1, z2, z4, z5⟩, h3⟩
  · by_cases e : l = d
    · subst e
      rw [if_pos (show 52 + l = plS m k by omega), if_pos ⟨z, h7⟩]
      unfold plI plA
      rw [if_pos z, h7, i32_nat (show l < 2 ^ 31 by omega)]
    · rw [if_neg (show ¬ 52 + l = plS m k by omega), if_neg (fun y => e ((iN_inj (by omega) (by omega)).mp (y.2.symm.trans h7)))]
  · rw [if_neg (show ¬ 52 + l = plS m k by omega), if_neg (fun y => absurd (z.symm.trans y.1) (by decide))]
  · rw [if_neg (show ¬ 52 + l = plS m k by omega), if_neg (fun y => absurd (z.symm.trans y.1) (by decide))]
  · rw [if_neg (show ¬ 52 + l = plS m k by omega), if_neg (fun y => absurd (z.symm.trans y.1) (by decide))]
  · rw [if_neg (show ¬ 52 + l = plS m k by omega), if_neg (fun y => absurd (z.symm.trans y.1) (by decide))]
  · rw [if_neg (show ¬ 52 + l = plS m k by omega), if_neg (fun y => z0 y.1)]
theorem plX1 (hJ : nJ κ i c m) {k : Nat} (hk : k < fN c 26) {l : Nat} (hl : l < 12) : (if 10 + l = plS m k then plI c m k else 0) = if m 66 k = 1 ∧ m 67 k = iN l then 1 + 1000 * ixL k (fL c 5 l) else 0 := by
  rcases plSr hJ hk with ⟨z, d, hd, h7, h3⟩ | ⟨z, d, hd, h7, h3⟩ | ⟨z, d, hd, h7, h3⟩ | ⟨z, d, hd, h7, h3⟩ | ⟨z, d, hd, h7, h3⟩ | ⟨⟨z0, z1, z2, z4, z5⟩, h3⟩
  · rw [if_neg (show ¬ 10 + l = plS m k by omega), if_neg (fun y => absurd (z.symm.trans y.1) (by decide))]
  · by_cases e : l = d
    · subst e
      rw [if_pos (show 10 + l = plS m k by omega), if_pos ⟨z, h7⟩]
      unfold plI plA
      rw [if_neg (show ¬ m 66 k = 0 by rw [z]; decide), if_pos z, h7, i32_nat (show l < 2 ^ 31 by omega)]
    · rw [if_neg (show ¬ 10 + l = plS m k by omega), if_neg (fun y => e ((iN_inj (by omega) (by omega)).mp (y.2.symm.trans h7)))]
  · rw [if_neg (show ¬ 10 + l = plS m k by omega), if_neg (fun y => absurd (z.symm.trans y.1) (by decide))]
  · rw [if_neg (show ¬ 10 + l = plS m k by omega), if_neg (fun y => absurd (z.symm.trans y.1) (by decide))]
  · rw [if_neg (show ¬ 10 + l = plS m k by omega), if_neg (fun y => absurd (z.symm.trans y.1) (by decide))]
  · rw [if_neg (show ¬ 10 + l = plS m k by omega), if_neg (fun y => z1 y.1)]
theorem plX2 (hJ : nJ κ i c m) {k : Nat} (hk : k < fN c 26) {l : Nat} (hl : l < 12) : (if 24 + l = plS m k then plI c m k else 0) = if m 66 k = 2 ∧ m 67 k = iN l then 1 else 0 := by
  rcases plSr hJ hk with ⟨z, d, hd, h7, h3⟩ | ⟨z, d, hd, h7, h3⟩ | ⟨z, d, hd, h7, h3⟩ | ⟨z, d, hd, h7, h3⟩ | ⟨z, d, hd, h7, h3⟩ | ⟨⟨z0, z1, z2, z4, z5⟩, h3⟩
  · rw [if_neg (show ¬ 24 + l = plS m k by omega), if_neg (fun y => absurd (z.symm.trans y.1) (by decide))]
  · rw [if_neg (show ¬ 24 + l = plS m k by omega), if_neg (fun y => absurd (z.symm.trans y.1) (by decide))]
  · by_cases e : l = d
    · subst e
      rw [if_pos (show 24 + l = plS m k by omega), if_pos ⟨z, h7⟩]
      unfold plI
      rw [if_neg (show ¬ m 66 k = 0 by rw [z]; decide), if_neg (show ¬ m 66 k = 1 by rw [z]; decide)]
    · rw [if_neg (show ¬ 24 + l = plS m k by omega), if_neg (fun y => e ((iN_inj (by omega) (by omega)).mp (y.2.symm.trans h7)))]
  · rw [if_neg (show ¬ 24 + l = plS m k by omega), if_neg (fun y => absurd (z.symm.trans y.1) (by decide))]
  · rw [if_neg (show ¬ 24 + l = plS m k by omega), if_neg (fun y => absurd (z.symm.trans y.1) (by decide))]
  · rw [if_neg (show ¬ 24 + l = plS m k by omega), if_neg (fun y => z2 y.1)]
theorem plX4 (hJ : nJ κ i c m) {k : Nat} (hk : k < fN c 26) {l : Nat} (hl : l < 6) : (if 36 + l = plS m k then plI c m k else 0) = if m 66 k = 4 ∧ m 67 k = iN l then 1 else 0 := by
  rcases plSr hJ hk with ⟨z, d, hd, h7, h3⟩ | ⟨z, d, hd, h7, h3⟩ | ⟨z, d, hd, h7, h3⟩ | ⟨z, d, hd, h7, h3⟩ | ⟨z, d, hd, h7, h3⟩ | ⟨⟨z0, z1, z2, z4, z5⟩, h3⟩
  · rw [if_neg (show ¬ 36 + l = plS m k by omega), if_neg (fun y => absurd (z.symm.trans y.1) (by decide))]
  · rw [if_neg (show ¬ 36 + l = plS m k by omega), if_neg (fun y => absurd (z.symm.trans y.1) (by decide))]
  · rw [if_neg (show ¬ 36 + l = plS m k by omega), if_neg (fun y => absurd (z.symm.trans y.1) (by decide))]
  · by_cases e : l = d
    · subst e
      rw [if_pos (show 36 + l = plS m k by omega), if_pos ⟨z, h7⟩]
      unfold plI
      rw [if_neg (show ¬ m 66 k = 0 by rw [z]; decide), if_neg (show ¬ m 66 k = 1 by rw [z]; decide)]
    · rw [if_neg (show ¬ 36 + l = plS m k by omega), if_neg (fun y => e ((iN_inj (by omega) (by omega)).mp (y.2.symm.trans h7)))]
  · rw [if_neg (show ¬ 36 + l = plS m k by omega), if_neg (fun y => absurd (z.symm.trans y.1) (by decide))]
  · rw [if_neg (show ¬ 36 + l = plS m k by omega), if_neg (fun y => z4 y.1)]
theorem plX5 (hJ : nJ κ i c m) {k : Nat} (hk : k < fN c 26) {l : Nat} (hl : l < 5) : (if 42 + l = plS m k then plI c m k else 0) = if m 66 k = 5 ∧ m 67 k = iN l then 1 else 0 := by
  rcases plSr hJ hk with ⟨z, d, hd, h7, h3⟩ | ⟨z, d, hd, h7, h3⟩ | ⟨z, d, hd, h7, h3⟩ | ⟨z, d, hd, h7, h3⟩ | ⟨z, d, hd, h7, h3⟩ | ⟨⟨z0, z1, z2, z4, z5⟩, h3⟩
  · rw [if_neg (show ¬ 42 + l = plS m k by omega), if_neg (fun y => absurd (z.symm.trans y.1) (by decide))]
  · rw [if_neg (show ¬ 42 + l = plS m k by omega), if_neg (fun y => absurd (z.symm.trans y.1) (by decide))]
  · rw [if_neg (show ¬ 42 + l = plS m k by omega), if_neg (fun y => absurd (z.symm.trans y.1) (by decide))]
  · rw [if_neg (show ¬ 42 + l = plS m k by omega), if_neg (fun y => absurd (z.symm.trans y.1) (by decide))]
  · by_cases e : l = d
    · subst e
      rw [if_pos (show 42 + l = plS m k by omega), if_pos ⟨z, h7⟩]
      unfold plI
      rw [if_neg (show ¬ m 66 k = 0 by rw [z]; decide), if_neg (show ¬ m 66 k = 1 by rw [z]; decide)]
    · rw [if_neg (show ¬ 42 + l = plS m k by omega), if_neg (fun y => e ((iN_inj (by omega) (by omega)).mp (y.2.symm.trans h7)))]
  · rw [if_neg (show ¬ 42 + l = plS m k by omega), if_neg (fun y => z5 y.1)]
theorem plWb (hJ : nJ κ i c m) {k : Nat} (hk : k < fN c 26) : plW m k ≤ 8 := by
  obtain ⟨-, n, hn, en⟩ := kind8 hJ hk
  unfold plW
  rw [en, i32_nat (show n < 2 ^ 31 by omega)]
  exact hn
theorem plSb (hJ : nJ κ i c m) {k : Nat} (hk : k < fN c 26) : 10 ≤ plS m k ∧ ¬ (47 ≤ plS m k ∧ plS m k < 52) := by
  rcases plSr hJ hk with ⟨z, d, hd, h7, h3⟩ | ⟨z, d, hd, h7, h3⟩ | ⟨z, d, hd, h7, h3⟩ | ⟨z, d, hd, h7, h3⟩ | ⟨z, d, hd, h7, h3⟩ | ⟨-, h3⟩
  all_goals (rw [h3]; omega)
theorem plDb (hJ : nJ κ i c m) {k : Nat} (hk : k < fN c 26) : 47 ≤ plD c k ∧ (plD c k < 52 ∨ plD c k = 63) := by
  have h23 := hJ.2.2.2.1.1
  have h28 := hJ.2.2.2.2.2.2.2.2.2.2.2.2.1
  unfold plD
  rcases plSt hJ hk with ⟨z, d, hd, h7, h3⟩ | ⟨z, d, hd, h7, h3⟩ | ⟨z, d, hd, h7, h3⟩ | ⟨z, d, hd, h7, h3⟩ | ⟨z, d, hd, h7, h3⟩ | ⟨z, d, hd, h7, h3, hcd⟩ | ⟨z, d, hd, h7, h3⟩ | ⟨z, h7, h3⟩ | ⟨z, h7, h3⟩
  · rw [h3]; dsimp only; omega
  · have := (h23 d hd).1.1
    rw [h3]; dsimp only; omega
  · rw [h3]; dsimp only; omega
  · rw [h3]; dsimp only; omega
  · rw [h3]; dsimp only; omega
  · have := (h28 d hd).1.1
    rw [h3]; dsimp only; omega
  · rw [h3]; dsimp only; omega
  · rw [h3]; dsimp only; omega
  · rw [h3]; dsimp only; omega
/-- only the third addition counts there -/
theorem plT3 (hJ : nJ κ i c m) {k : Nat} (hk : k < fN c 26) {j : Nat} (h1 : 10 ≤ j) (h2 : j < 47 ∨ (52 ≤ j ∧ j < 63)) : plT c m k j = if j = plS m k then plI c m k else 0 := by
  have hw := plWb hJ hk
  have hD := plDb hJ hk
  unfold plT
  rw [if_neg (show ¬ j = plW m k by omega), if_neg (show ¬ j = plD c k by omega)]
  simp only [Nat.zero_add]
theorem plF_cnt (hJ : nJ κ i c m) {j : Nat} (hj : j ≤ 8) : zSm (fun k => plT c m k j) (fN c 26) = nCnt (fN c 26) fun k => decide (m 66 k = iN j) := by
  rw [← zSm_cnt]
  refine zSm_cg fun k hk => ?_
  have hD := plDb hJ hk
  have hS := plSb hJ hk
  obtain ⟨-, n, hn, en⟩ := kind8 hJ hk
  have ew : plW m k = n := by unfold plW; rw [en]; exact i32_nat (by omega)
  simp only [decide_eq_true_eq]
  unfold plT
  rw [if_neg (show ¬ j = plD c k by omega), if_neg (show ¬ j = plS m k by omega)]
  simp only [Nat.add_zero]
  rw [ew, en]
  by_cases e : j = n
  · rw [if_pos e, if_pos (by rw [e])]
  · rw [if_neg e, if_neg (fun z => e ((iN_inj (by omega) (by omega)).mp z).symm)]
theorem plF_stk (hJ : nJ κ i c m) {d : Nat} (hd : d < 5) : zSm (fun k => plT c m k (47 + d)) (fN c 26) = nCnt (fN c 26) fun k => decide (fP c 9 k 3 = some d) := by
  rw [← zSm_cnt]
  refine zSm_cg fun k hk => ?_
  have hw := plWb hJ hk
  have hS := plSb hJ hk
  have hD := plDb hJ hk
  simp only [decide_eq_true_eq]
  unfold plT
  rw [if_neg (show ¬ 47 + d = plW m k by omega), if_neg (show ¬ 47 + d = plS m k by omega), Nat.zero_add, Nat.add_zero]
  revert hD
  unfold plD
  cases fP c 9 k 3 with
  | none =>
    intro _
    rw [if_neg (show ¬ 47 + d = 63 by omega), if_neg (fun z => by cases z)]
  | some e =>
    intro _
    dsimp only
    by_cases h : e = d
    · rw [if_pos (by rw [h]), if_pos (by rw [h])]
    · rw [if_neg (by omega), if_neg (fun z => h (Option.some.inj z))]
theorem plF_row (hJ : nJ κ i c m) {l : Nat} (hl : l < fN c 23) : zSm (fun k => plT c m k (10 + l)) (fN c 26) = (fL c 5 l).length + 1000 * tri (fL c 5 l).length := by
  have h23 := hJ.1.1.1
  obtain ⟨-, g2, -⟩ := hJ.2.2.2.2.2.2.2.2.2.1
  rw [← sum_ix (nLin_nd (g2 l hl)), ← zSm_line (g2 l hl)]
  refine zSm_cg fun k hk => ?_
  rw [plT3 hJ hk (by omega) (by omega), plX1 hJ hk (by omega)]
theorem plF_dep (hJ : nJ κ i c m) {d : Nat} (hd : d < 5) : zSm (fun k => plT c m k (52 + d)) (fN c 26) = (fL c 3 d).length + 1000 * tri (fL c 3 d).length := by
  obtain ⟨g1, -, -⟩ := hJ.2.2.2.2.2.2.2.2.2.1
  rw [← sum_ix (nLin_nd (g1 d hd)), ← zSm_line (g1 d hd)]
  refine zSm_cg fun k hk => ?_
  rw [plT3 hJ hk (by omega) (by omega), plX0 hJ hk (by omega)]
theorem plF_lan (hJ : nJ κ i c m) {l : Nat} (hl : l < fN c 23) : zSm (fun k => plT c m k (24 + l)) (fN c 26) = (fL c 6 l).length := by
  have h23 := hJ.1.1.1
  obtain ⟨-, -, g3⟩ := hJ.2.2.2.2.2.2.2.2.2.1
  rw [← sumF_one, ← zSm_line (g3 l hl).1]
  refine zSm_cg fun k hk => ?_
  rw [plT3 hJ hk (by omega) (by omega), plX2 hJ hk (by omega)]
theorem plF_van (hJ : nJ κ i c m) {v : Nat} (hv : v < fN c 27) : zSm (fun k => plT c m k (36 + v)) (fN c 26) = nCnt (fN c 26) fun k => decide (m 66 k = 4 ∧ m 67 k = iN v) := by
  have h27 := hJ.1.2.2.2.1.1
  rw [← zSm_cnt]
  refine zSm_cg fun k hk => ?_
  simp only [decide_eq_true_eq]
  rw [plT3 hJ hk (by omega) (by omega), plX4 hJ hk (by omega)]
theorem plF_loc (hJ : nJ κ i c m) {l : Nat} (hl : l < fN c 28) : zSm (fun k => plT c m k (42 + l)) (fN c 26) = nCnt (fN c 26) fun k => decide (m 66 k = 5 ∧ m 67 k = iN l) := by
  have h28 := hJ.1.2.2.2.2.1.1
  rw [← zSm_cnt]
  refine zSm_cg fun k hk => ?_
  simp only [decide_eq_true_eq]
  rw [plT3 hJ hk (by omega) (by omega), plX5 hJ hk (by omega)]
/-- what is free in a locker -/
theorem plFree (hJ : nJ κ i c m) (hA : pA κ a) {l : Nat} (hl : l < fN c 28) : a 29 l / 10 - iN (nCnt (fN c 26) fun k => decide (m 66 k = 5 ∧ m 67 k = iN l)) = fI c 7 l 1 + fI c 7 l 2 + fI c 7 l 3 ∧ ∀ j, 1 ≤ j → j ≤ 3 → ¬ fI c 7 l j < 0 := by
  have h26 := hJ.1.2.2.1.1
  obtain ⟨C, c1, c2, c3, c4⟩ := cell1 hJ hA hl
  obtain ⟨-, hx⟩ := hJ.2.2.2.2.2.2.2.2.2.2.2.2.1 l hl
  obtain ⟨⟨M1, -, x1, x2⟩, ⟨F1, -, x3, x4⟩, x5⟩ := hx 1 (by omega) (by omega)
  obtain ⟨⟨M2, -, y1, y2⟩, ⟨F2, -, y3, y4⟩, y5⟩ := hx 2 (by omega) (by omega)
  obtain ⟨⟨M3, -, z1, z2⟩, ⟨F3, -, z3, z4⟩, z5⟩ := hx 3 (by omega) (by omega)
  have hle := fun j : Nat => cnt_le (p := fun x => decide (m 66 x = 5 ∧ m 67 x = iN l ∧ m 71 x = iN j)) (P := fN c 26)
  have l1 := hle 1
  have l2 := hle 2
  have l3 := hle 3
  rw [x2, x4, show iN F1 + iN _ = iN (F1 + _) from i32_add, iN_inj (by omega) (by omega)] at x5
  rw [y2, y4, show iN F2 + iN _ = iN (F2 + _) from i32_add, iN_inj (by omega) (by omega)] at y5
  rw [z2, z4, show iN F3 + iN _ = iN (F3 + _) from i32_add, iN_inj (by omega) (by omega)] at z5
  have hsum : nCnt (fN c 26) (fun k => decide (m 66 k = 5 ∧ m 67 k = iN l)) = ((List.range (fN c 26)).filter fun x => decide (m 66 x = 5 ∧ m 67 x = iN l ∧ m 71 x = iN 1)).length + ((List.range (fN c 26)).filter fun x => decide (m 66 x = 5 ∧ m 67 x = iN l ∧ m 71 x = iN 2)).length + ((List.range (fN c 26)).filter fun x => decide (m 66 x = 5 ∧ m 67 x = iN l ∧ m 71 x = iN 3)).length := by
    have cv : ∀ j : Nat, ((List.range (fN c 26)).filter fun x => decide (m 66 x = 5 ∧ m 67 x = iN l ∧ m 71 x = iN j)).length = zSm (fun k => if m 66 k = 5 ∧ m 67 k = iN l ∧ m 71 k = iN j then 1 else 0) (fN c 26) := fun j => by
      have := zSm_cnt (fun x => decide (m 66 x = 5 ∧ m 67 x = iN l ∧ m 71 x = iN j)) (fN c 26)
      simp only [decide_eq_true_eq] at this
      rw [this, List.range_eq_range']
      rfl
    rw [cv, cv, cv, ← zSm_add, ← zSm_add, ← zSm_cnt]
    refine zSm_cg fun k hk => ?_
    simp only [decide_eq_true_eq]
    by_cases h : m 66 k = 5 ∧ m 67 k = iN l
    · rw [if_pos h]
      rcases nJ_5 hJ hk with ⟨-, l', j, -, j1, j4, -, -, e71, -⟩ | ⟨w, -⟩
      · obtain rfl | rfl | rfl : j = 1 ∨ j = 2 ∨ j = 3 := by omega
        · rw [if_pos ⟨h.1, h.2, e71⟩, if_neg (fun w => absurd (e71.symm.trans w.2.2) (by decide)), if_neg (fun w => absurd (e71.symm.trans w.2.2) (by decide))]
        · rw [if_neg (fun w => absurd (e71.symm.trans w.2.2) (by decide)), if_pos ⟨h.1, h.2, e71⟩, if_neg (fun w => absurd (e71.symm.trans w.2.2) (by decide))]
        · rw [if_neg (fun w => absurd (e71.symm.trans w.2.2) (by decide)), if_neg (fun w => absurd (e71.symm.trans w.2.2) (by decide)), if_pos ⟨h.1, h.2, e71⟩]
      · exact absurd h.1 w
    · rw [if_neg h, if_neg (fun w => h ⟨w.1, w.2.1⟩), if_neg (fun w => h ⟨w.1, w.2.1⟩), if_neg (fun w => h ⟨w.1, w.2.1⟩)]
  rw [x2, y2, z2, show iN M1 + iN M2 = iN (M1 + M2) from i32_add, show iN (M1 + M2) + iN M3 = iN (M1 + M2 + M3) from i32_add, iN_inj (by omega) (by omega)] at c2
  have e10 : a 29 l / 10 = iN C := by
    rw [c4]
    exact (iN_div (b := 10) (by omega) (by omega)).trans (by rw [show (fX c 28 l 1 + 10 * C) / 10 = C by omega])
  refine ⟨?_, fun j j1 j3 => ?_⟩
  · rw [e10, x4, y4, z4, show iN F1 + iN F2 = iN (F1 + F2) from i32_add, show iN (F1 + F2) + iN F3 = iN (F1 + F2 + F3) from i32_add, hsum]
    rw [show iN C - iN (((List.range (fN c 26)).filter fun x => decide (m 66 x = 5 ∧ m 67 x = iN l ∧ m 71 x = iN 1)).length + ((List.range (fN c 26)).filter fun x => decide (m 66 x = 5 ∧ m 67 x = iN l ∧ m 71 x = iN 2)).length + ((List.range (fN c 26)).filter fun x => decide (m 66 x = 5 ∧ m 67 x = iN l ∧ m 71 x = iN 3)).length) = iN (C - (((List.range (fN c 26)).filter fun x => decide (m 66 x = 5 ∧ m 67 x = iN l ∧ m 71 x = iN 1)).length + ((List.range (fN c 26)).filter fun x => decide (m 66 x = 5 ∧ m 67 x = iN l ∧ m 71 x = iN 2)).length + ((List.range (fN c 26)).filter fun x => decide (m 66 x = 5 ∧ m 67 x = iN l ∧ m 71 x = iN 3)).length)) from i32_sub (by omega) (by omega)]
    congr 1
    omega
  · obtain rfl | rfl | rfl : j = 1 ∨ j = 2 ∨ j = 3 := by omega
    · rw [x4]; exact iN_pos (by omega)
    · rw [y4]; exact iN_pos (by omega)
    · rw [z4]; exact iN_pos (by omega)
/-- a sum of places -/
theorem rowN {L : Nat} (hL : L ≤ 40) : iN (L + 1000 * tri L) / 1000 = iN (tri L) ∧ iN (L + 1000 * tri L) - iN (L + 1000 * tri L) / 1000 * 1000 = iN L ∧ iN (tri L) = iN L * (iN L - 1) / 2 := by
  have ht := tri_eq L hL
  have hm : L * (L - 1) ≤ 40 * 39 := Nat.mul_le_mul hL (by omega)
  have h1 : iN (L + 1000 * tri L) / 1000 = iN (tri L) := (iN_div (b := 1000) (by omega) (by omega)).trans (by rw [show (L + 1000 * tri L) / 1000 = tri L by omega])
  have h2 : iN (L + 1000 * tri L) - iN (L + 1000 * tri L) / 1000 * 1000 = iN L := (iN_mod (b := 1000) (by omega) (by omega)).trans (by rw [show (L + 1000 * tri L) % 1000 = L by omega])
  refine ⟨h1, h2, ?_⟩
  have h3 : iN L * (iN L - 1) = iN (L * (L - 1)) := by
    cases L with
    | zero => exact Int32.zero_mul
    | succ n =>
      rw [show iN (n + 1) - 1 = iN n from i32_sub (b := 1) (by omega) (by omega)]
      exact iN_mul
  rw [h3, ht]
  exact ((iN_div (b := 2) (by omega) (by omega))).symm
end PLM
end KAP
