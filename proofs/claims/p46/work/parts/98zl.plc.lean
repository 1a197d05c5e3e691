/-! ===== arePlaces: made by wip/p46/gen2/mk98zl.py ===== -/
/-! sums -/
def zSm (f : Nat → Nat) : Nat → Nat
  | 0 => 0
  | n + 1 => zSm f n + f n
def sumF (f : Nat → Nat) : List Nat → Nat
  | [] => 0
  | x :: l => f x + sumF f l
theorem sumF_app (f : Nat → Nat) : ∀ a b : List Nat, sumF f (a ++ b) = sumF f a + sumF f b
  | [], b => (Nat.zero_add _).symm
  | x :: a, b => by
    show f x + sumF f (a ++ b) = f x + sumF f a + sumF f b
    rw [sumF_app f a b, Nat.add_assoc]
theorem sumF_perm {f : Nat → Nat} {a b : List Nat} (h : a.Perm b) : sumF f a = sumF f b := by
  induction h with
  | nil => rfl
  | cons x _ ih => simp only [sumF, ih]
  | swap x y l => simp only [sumF]; omega
  | trans _ _ h1 h2 => exact h1.trans h2
theorem sumF_cg {f g : Nat → Nat} : ∀ {l : List Nat}, (∀ k, k ∈ l → f k = g k) → sumF f l = sumF g l
  | [], _ => rfl
  | x :: l, h => by
    simp only [sumF]
    rw [h x List.mem_cons_self, sumF_cg fun k hk => h k (List.mem_cons_of_mem _ hk)]
theorem sumF_addc {f : Nat → Nat} {b : Nat} : ∀ (l : List Nat), sumF (fun k => f k + b) l = sumF f l + b * l.length
  | [] => rfl
  | x :: l => by
    simp only [sumF, List.length_cons]
    rw [sumF_addc l, Nat.mul_succ]
    omega
theorem sumF_one : ∀ (l : List Nat), sumF (fun _ => 1) l = l.length
  | [] => rfl
  | x :: l => by
    simp only [sumF, List.length_cons]
    rw [sumF_one l, Nat.add_comm]
theorem sumF_rng (f : Nat → Nat) (p : Nat → Bool) : ∀ n, sumF f ((List.range n).filter p) = zSm (fun k => if p k = true then f k else 0) n
  | 0 => rfl
  | n + 1 => by
    rw [List.range_succ, List.filter_append, sumF_app, sumF_rng f p n]
    simp only [zSm]
    by_cases h : p n = true
    · rw [if_pos h, List.filter_cons, if_pos h]
      rfl
    · rw [if_neg h, List.filter_cons, if_neg h]
      rfl
theorem zSm_cg {f g : Nat → Nat} : ∀ {n : Nat}, (∀ k, k < n → f k = g k) → zSm f n = zSm g n
  | 0, _ => rfl
  | n + 1, h => by
    simp only [zSm]
    rw [zSm_cg fun k hk => h k (Nat.lt_succ_of_lt hk), h n (Nat.lt_succ_self n)]
theorem zSm_cnt (p : Nat → Bool) (n : Nat) : zSm (fun k => if p k = true then 1 else 0) n = nCnt n p := by
  rw [← sumF_rng (fun _ => 1) p n, sumF_one, List.range_eq_range']
  rfl
theorem zSm_le {f : Nat → Nat} {b : Nat} : ∀ {n : Nat}, (∀ k, k < n → f k ≤ b) → zSm f n ≤ b * n
  | 0, _ => Nat.le_refl _
  | n + 1, h => by
    have h1 := zSm_le fun k hk => h k (Nat.lt_succ_of_lt hk)
    have h2 := h n (Nat.lt_succ_self n)
    simp only [zSm]
    rw [Nat.mul_succ]
    omega
theorem zSm_add {f g : Nat → Nat} : ∀ n : Nat, zSm (fun k => f k + g k) n = zSm f n + zSm g n
  | 0 => rfl
  | n + 1 => by
    simp only [zSm]
    rw [zSm_add n]
    omega
/-- a sum over a line -/
theorem zSm_line {P : Nat} {w a q : Nat → Int32} {x y : Int32} {l : List Nat} (hL : nLin P w a q x y l) (f : Nat → Nat) : zSm (fun k => if w k = x ∧ a k = y then f k else 0) P = sumF f l := by
  have h := sumF_rng f (fun k => decide (w k = x ∧ a k = y)) P
  simp only [decide_eq_true_eq] at h
  rw [← h]
  refine sumF_perm ((List.perm_ext_iff_of_nodup (List.Pairwise.filter _ List.nodup_range) (nLin_nd hL)).mpr fun k => ?_)
  rw [List.mem_filter, List.mem_range, hL.1 k, decide_eq_true_eq]
/-- a place in a list -/
def ixL (k : Nat) : List Nat → Nat
  | [] => 0
  | x :: l => if x = k then 0 else ixL k l + 1
theorem ixL_of {k : Nat} : ∀ {l : List Nat} {n : Nat}, l.Nodup → l[n]? = some k → ixL k l = n
  | [], n, _, h => by simp at h
  | x :: l, 0, _, h => by
    have e : x = k := Option.some.inj h
    simp only [ixL]
    rw [if_pos e]
  | x :: l, n + 1, hd, h => by
    have h' : l[n]? = some k := h
    rw [List.nodup_cons] at hd
    have hne : ¬ x = k := fun e => hd.1 (e ▸ List.mem_of_getElem? h')
    simp only [ixL]
    rw [if_neg hne, ixL_of hd.2 h']
def tri : Nat → Nat
  | 0 => 0
  | n + 1 => tri n + n
theorem tri_eq : ∀ n, n ≤ 40 → tri n = n * (n - 1) / 2 := by decide
theorem sum_ix : ∀ {l : List Nat}, l.Nodup → sumF (fun k => 1 + 1000 * ixL k l) l = l.length + 1000 * tri l.length
  | [], _ => rfl
  | x :: l, hd => by
    rw [List.nodup_cons] at hd
    have h1 : sumF (fun k => 1 + 1000 * ixL k (x :: l)) l = sumF (fun k => (1 + 1000 * ixL k l) + 1000) l := by
      refine sumF_cg fun k hk => ?_
      have hne : ¬ x = k := fun e => hd.1 (e ▸ hk)
      simp only [ixL]
      rw [if_neg hne]
      omega
    have h2 : ixL x (x :: l) = 0 := by simp [ixL]
    simp only [sumF, List.length_cons]
    rw [h1, h2, sumF_addc, sum_ix hd.2]
    show _ = l.length + 1 + 1000 * (tri l.length + l.length)
    omega
theorem ixL_le (k : Nat) : ∀ l : List Nat, ixL k l ≤ l.length
  | [] => Nat.le_refl _
  | x :: l => by
    have := ixL_le k l
    simp only [ixL, List.length_cons]
    split
    · omega
    · omega
/-! what a parcel adds to the law's table -/
def plA (m : nM) (k : Nat) : Nat := (m 67 k).toNatClampNeg
def plW (m : nM) (k : Nat) : Nat := (m 66 k).toNatClampNeg
def plD (c : nC) (k : Nat) : Nat := match fP c 9 k 3 with
  | none => 63
  | some d => 47 + d
def plS (m : nM) (k : Nat) : Nat := if m 66 k = 0 then 52 + plA m k else if m 66 k = 1 then 10 + plA m k else if m 66 k = 2 then 24 + plA m k else if m 66 k = 4 then 36 + plA m k else if m 66 k = 5 then 42 + plA m k else 64
def plI (c : nC) (m : nM) (k : Nat) : Nat := if m 66 k = 0 then 1 + 1000 * ixL k (fL c 3 (plA m k)) else if m 66 k = 1 then 1 + 1000 * ixL k (fL c 5 (plA m k)) else 1
def plT (c : nC) (m : nM) (k j : Nat) : Nat := (if j = plW m k then 1 else 0) + (if j = plD c k then 1 else 0) + (if j = plS m k then plI c m k else 0)
theorem a35 {x y z : Int32} : x + (y + z) = x + y + z := (Int32.add_assoc x y z).symm
theorem bI_Vl {x : Int32} {c : nC} {w : nM × Nat × (Nat → Int64)} {K : Int32 → nS → Option nOut} {H : Nat → nS → Option nOut} : bI (nVl x c w) K H = K x (c, w) := rfl
/-- one update more -/
theorem upd1 {a : nM} {d j : Nat} {x : Int32} : uM 2 d (a 2 d + x) a 2 j = a 2 j + (if j = d then x else 0) := by
  rw [uM_at]
  by_cases e : j = d
  · rw [if_pos e, if_pos e, e]
  · rw [if_neg e, if_neg e, Int32.add_zero]
section KAP
variable {κ : kP}
section PLC
variable {xs : Nat → Int32} {nx : Nat} {i : Nat} {c : nC} {m a : nM} {q : Nat} {J : Nat → Int64}
/-- where a parcel is, and what is its depot -/
theorem plSt (hJ : nJ κ i c m) {k : Nat} (hk : k < fN c 26) :
    (m 66 k = 0 ∧ ∃ d, d < 5 ∧ m 67 k = iN d ∧ fP c 9 k 3 = some d) ∨ (m 66 k = 1 ∧ ∃ l, l < fN c 23 ∧ m 67 k = iN l ∧ fP c 9 k 3 = some (fX c 23 l 1)) ∨ (m 66 k = 2 ∧ ∃ l, l < fN c 23 ∧ m 67 k = iN l ∧ fP c 9 k 3 = none) ∨
    (m 66 k = 3 ∧ ∃ d, d < 5 ∧ m 67 k = iN d ∧ fP c 9 k 3 = some d) ∨ (m 66 k = 4 ∧ ∃ v, v < fN c 27 ∧ m 67 k = iN v ∧ fP c 9 k 3 = none) ∨ (m 66 k = 5 ∧ ∃ l, l < fN c 28 ∧ m 67 k = iN l ∧ fP c 9 k 3 = some (fX c 28 l 1) ∧ nIn (m 72 k) 1000 9999) ∨
    (m 66 k = 6 ∧ ∃ d, d < 5 ∧ m 67 k = iN d ∧ fP c 9 k 3 = some d) ∨ (m 66 k = 7 ∧ m 67 k = -1 ∧ fP c 9 k 3 = none) ∨ (m 66 k = 8 ∧ m 67 k = -1 ∧ fP c 9 k 3 = none) := by
  obtain ⟨-, -, -, -, y⟩ := hJ.2.2.2.2.2.2.2.1 k hk
  rcases y with ⟨z, d, h1, h2, h3, -⟩ | ⟨z, d, h1, h2, h3, -⟩ | ⟨z, d, h1, h2, h3, -⟩ | ⟨z, d, h1, h2, h3, -⟩ | ⟨z, d, h1, h2, h3, -⟩ | ⟨z, d, h1, h2, h3, -, -, -, -, -, h4, h5⟩ | ⟨z, d, h1, h2, h3, -⟩ | ⟨z, h2, h3, -⟩ | ⟨z, h2, h3, -⟩
  · exact Or.inl ⟨z, d, h1, h2, h3⟩
  · exact Or.inr (Or.inl ⟨z, d, h1, h2, h3⟩)
  · exact Or.inr (Or.inr (Or.inl ⟨z, d, h1, h2, h3⟩))
  · exact Or.inr (Or.inr (Or.inr (Or.inl ⟨z, d, h1, h2, h3⟩)))
  · exact Or.inr (Or.inr (Or.inr (Or.inr (Or.inl ⟨z, d, h1, h2, h3⟩))))
  · exact Or.inr (Or.inr (Or.inr (Or.inr (Or.inr (Or.inl ⟨z, d, h1, h2, h3, by rw [h4]; exact h5⟩)))))
  · exact Or.inr (Or.inr (Or.inr (Or.inr (Or.inr (Or.inr (Or.inl ⟨z, d, h1, h2, h3⟩))))))
  · exact Or.inr (Or.inr (Or.inr (Or.inr (Or.inr (Or.inr (Or.inr (Or.inl ⟨z, h2, h3⟩)))))))
  · exact Or.inr (Or.inr (Or.inr (Or.inr (Or.inr (Or.inr (Or.inr (Or.inr ⟨z, h2, h3⟩)))))))
theorem cell1 (hJ : nJ κ i c m) (hA : pA κ a) {l : Nat} (hl : l < fN c 28) : ∃ C, C ≤ 15 ∧ m 89 (4 * l + 1) + m 89 (4 * l + 2) + m 89 (4 * l + 3) = iN C ∧ fX c 28 l 1 < 5 ∧ a 29 l = iN (fX c 28 l 1 + 10 * C) := by
  obtain ⟨⟨-, -, -, -, k1⟩, -, -, -, -, -, k2, k3⟩ := nJ_k hJ
  obtain ⟨C, h1, h2, h3⟩ := hA.2.2.2.2 l (by rw [k1]; exact hl)
  rw [k2] at h3
  exact ⟨C, h1, (k3 l hl).symm.trans h2, (hJ.2.2.2.2.2.2.2.2.2.2.2.2.1 l hl).1.1, h3⟩
/-- the first two additions -/
theorem plcA (hJ : nJ κ i c m) (hA : pA κ a) {k : Nat} (hk : k < fN c 26) (l8 l9 l10 : Option nV) : ∃ dv x : Int32, (47 : Int32) + x = iN (plD c k) ∧
    R1 xs nx 4 75 [some (vR 0 (some 0)), some (vR 35 (some 0)), some (vR 79 (some 0)), some (vR 29 (some 0)), some (vR 80 (some 0)), some (vR 2 (some 0)), some (vI 1), some (vI (iN k)), l8, l9, l10] [] (c, a, q, J) = R1 xs nx 4 188 [some (vR 0 (some 0)), some (vR 35 (some 0)), some (vR 79 (some 0)), some (vR 29 (some 0)), some (vR 80 (some 0)), some (vR 2 (some 0)), some (vI 1), some (vI (iN k)), some (vI (m 66 k)), some (vI (m 67 k)), some (vI dv)] [vI x, vI 47, vR 2 (some 0)] (c, uM 2 (plW m k) (a 2 (plW m k) + 1) a, q, J) := by
  have g2 : a 80 2 = iN (fN c 26) := by rw [hA.1.2.2.1, (nJ_k hJ).1.2.2.1]
  have h26 := hJ.1.2.2.1.1
  have h23 := hJ.1.1.1
  have h28 := hJ.1.2.2.2.2.1.1
  have st : R1 xs nx 4 75 [some (vR 0 (some 0)), some (vR 35 (some 0)), some (vR 79 (some 0)), some (vR 29 (some 0)), some (vR 80 (some 0)), some (vR 2 (some 0)), some (vI 1), some (vI (iN k)), l8, l9, l10] [] (c, a, q, J) = _ := d_4_75 _ _ _ _ _ _
  rw [if_pos i62] at st
  dsimp only at st
  simp only [t62, g2] at st
  rw [if_pos ((iN_lt (by omega) (by omega)).mpr hk), if_neg n10, q144 (a, q, J) hJ hk, bI_Vl, q145 (a, q, J) hJ hk, bI_Vl] at st
  rw [st]
  unfold plW plD
  rcases plSt hJ hk with ⟨z, d, hd, h7, h3⟩ | ⟨z, d, hd, h7, h3⟩ | ⟨z, d, hd, h7, h3⟩ | ⟨z, d, hd, h7, h3⟩ | ⟨z, d, hd, h7, h3⟩ | ⟨z, d, hd, h7, h3, hcd⟩ | ⟨z, d, hd, h7, h3⟩ | ⟨z, h7, h3⟩ | ⟨z, h7, h3⟩
  · rw [z, h3]
    refine ⟨m 67 k, m 67 k, by rw [h7]; exact i32_add (a := 47), ?_⟩
    rw [if_pos (show mIn (0 : Int32) 64 = true by decide), if_pos (show mIn (0 : Int32) 64 = true by decide), if_pos (show (0 : Int32) = 0 from rfl), d_4_132, d_4_170, if_neg (by rw [h7]; exact iN_pos (by omega))]
  · rw [z, h3]
    obtain ⟨H, X, h1, h2, h4, h5, h6, h8⟩ := rowL hJ hA hd
    have hw : wN (fX c 23 d 1) (fX c 23 d 2) H X < 100000 := by unfold wN; omega
    have x1 : a 35 d - a 35 d / 10 * 10 = iN (fX c 23 d 1) := by
      rw [h8]
      exact (iN_mod (b := 10) (by omega) (by omega)).trans (by rw [(wN_a (X := X) h5 h6 (show H < 100 by omega)).1])
    refine ⟨iN (fX c 23 d 1), iN (fX c 23 d 1), i32_add (a := 47), ?_⟩
    rw [if_pos (show mIn (1 : Int32) 64 = true by decide), if_pos (show mIn (1 : Int32) 64 = true by decide), if_neg (show ¬ (1 : Int32) = 0 by decide), if_neg (show ¬ (1 : Int32) = 3 by decide), if_neg (show ¬ (1 : Int32) = 6 by decide), if_pos (show (1 : Int32) = 1 from rfl), if_pos (show mIn (m 67 k) 12 = true by rw [h7]; exact iN_in (by omega) (by decide)), h7, i32_nat (show d < 2 ^ 31 by omega), x1, d_4_170, if_neg (iN_pos (by omega))]
  · rw [z, h3]
    refine ⟨-1, 16, by decide, ?_⟩
    rw [if_pos (show mIn (2 : Int32) 64 = true by decide), if_pos (show mIn (2 : Int32) 64 = true by decide), if_neg (show ¬ (2 : Int32) = 0 by decide), if_neg (show ¬ (2 : Int32) = 3 by decide), if_neg (show ¬ (2 : Int32) = 6 by decide), if_neg (show ¬ (2 : Int32) = 1 by decide), if_neg (show ¬ (2 : Int32) = 5 by decide), d_4_170, if_pos (show (-1 : Int32) < 0 by decide)]
  · rw [z, h3]
    refine ⟨m 67 k, m 67 k, by rw [h7]; exact i32_add (a := 47), ?_⟩
    rw [if_pos (show mIn (3 : Int32) 64 = true by decide), if_pos (show mIn (3 : Int32) 64 = true by decide), if_neg (show ¬ (3 : Int32) = 0 by decide), if_pos (show (3 : Int32) = 3 from rfl), d_4_132, d_4_170, if_neg (by rw [h7]; exact iN_pos (by omega))]
  · rw [z, h3]
    refine ⟨-1, 16, by decide, ?_⟩
    rw [if_pos (show mIn (4 : Int32) 64 = true by decide), if_pos (show mIn (4 : Int32) 64 = true by decide), if_neg (show ¬ (4 : Int32) = 0 by decide), if_neg (show ¬ (4 : Int32) = 3 by decide), if_neg (show ¬ (4 : Int32) = 6 by decide), if_neg (show ¬ (4 : Int32) = 1 by decide), if_neg (show ¬ (4 : Int32) = 5 by decide), d_4_170, if_pos (show (-1 : Int32) < 0 by decide)]
  · rw [z, h3]
    obtain ⟨C, h1, h2, h4, h5⟩ := cell1 hJ hA hd
    have x1 : a 29 d - a 29 d / 10 * 10 = iN (fX c 28 d 1) := by
      rw [h5]
      exact (iN_mod (b := 10) (by omega) (by omega)).trans (by rw [show (fX c 28 d 1 + 10 * C) % 10 = fX c 28 d 1 by omega])
    refine ⟨iN (fX c 28 d 1), iN (fX c 28 d 1), i32_add (a := 47), ?_⟩
    rw [if_pos (show mIn (5 : Int32) 64 = true by decide), if_pos (show mIn (5 : Int32) 64 = true by decide), if_neg (show ¬ (5 : Int32) = 0 by decide), if_neg (show ¬ (5 : Int32) = 3 by decide), if_neg (show ¬ (5 : Int32) = 6 by decide), if_neg (show ¬ (5 : Int32) = 1 by decide), if_pos (show (5 : Int32) = 5 from rfl), if_pos (show mIn (m 67 k) 5 = true by rw [h7]; exact iN_in (by omega) (by decide)), h7, i32_nat (show d < 2 ^ 31 by omega), x1, d_4_170, if_neg (iN_pos (by omega))]
  · rw [z, h3]
    refine ⟨m 67 k, m 67 k, by rw [h7]; exact i32_add (a := 47), ?_⟩
    rw [if_pos (show mIn (6 : Int32) 64 = true by decide), if_pos (show mIn (6 : Int32) 64 = true by decide), if_neg (show ¬ (6 : Int32) = 0 by decide), if_neg (show ¬ (6 : Int32) = 3 by decide), if_pos (show (6 : Int32) = 6 from rfl), d_4_132, d_4_170, if_neg (by rw [h7]; exact iN_pos (by omega))]
  · rw [z, h3]
    refine ⟨-1, 16, by decide, ?_⟩
    rw [if_pos (show mIn (7 : Int32) 64 = true by decide), if_pos (show mIn (7 : Int32) 64 = true by decide), if_neg (show ¬ (7 : Int32) = 0 by decide), if_neg (show ¬ (7 : Int32) = 3 by decide), if_neg (show ¬ (7 : Int32) = 6 by decide), if_neg (show ¬ (7 : Int32) = 1 by decide), if_neg (show ¬ (7 : Int32) = 5 by decide), d_4_170, if_pos (show (-1 : Int32) < 0 by decide)]
  · rw [z, h3]
    refine ⟨-1, 16, by decide, ?_⟩
    rw [if_pos (show mIn (8 : Int32) 64 = true by decide), if_pos (show mIn (8 : Int32) 64 = true by decide), if_neg (show ¬ (8 : Int32) = 0 by decide), if_neg (show ¬ (8 : Int32) = 3 by decide), if_neg (show ¬ (8 : Int32) = 6 by decide), if_neg (show ¬ (8 : Int32) = 1 by decide), if_neg (show ¬ (8 : Int32) = 5 by decide), d_4_170, if_pos (show (-1 : Int32) < 0 by decide)]
theorem plB1 (hJ : nJ κ i c m) {k : Nat} (hk : k < fN c 26) : plD c k < 64 ∧ 47 ≤ plD c k := by
  have h23 := hJ.2.2.2.1.1
  have h28 := hJ.2.2.2.2.2.2.2.2.2.2.2.2.1
  unfold plD
  rcases plSt hJ hk with ⟨z, d, hd, h7, h3⟩ | ⟨z, d, hd, h7, h3⟩ | ⟨z, d, hd, h7, h3⟩ | ⟨z, d, hd, h7, h3⟩ | ⟨z, d, hd, h7, h3⟩ | ⟨z, d, hd, h7, h3, hcd⟩ | ⟨z, d, hd, h7, h3⟩ | ⟨z, h7, h3⟩ | ⟨z, h7, h3⟩
  · rw [h3]
    dsimp only
    omega
  · rw [h3]
    dsimp only
    have := (h23 d hd).1.1
    omega
  · rw [h3]
    dsimp only
    omega
  · rw [h3]
    dsimp only
    omega
  · rw [h3]
    dsimp only
    omega
  · rw [h3]
    dsimp only
    have := (h28 d hd).1.1
    omega
  · rw [h3]
    dsimp only
    omega
  · rw [h3]
    dsimp only
    omega
  · rw [h3]
    dsimp only
    omega
/-- the third addition -/
theorem plcB (hJ : nJ κ i c m) {k : Nat} (hk : k < fN c 26) {dv x : Int32} (hx : (47 : Int32) + x = iN (plD c k)) : ∃ a2 : nM, (∀ t, t ≠ 2 → a2 t = a t) ∧ (∀ j, j < 64 → a2 2 j = a 2 j + (if j = plD c k then 1 else 0) + (if j = plS m k then iN (plI c m k) else 0)) ∧
    R1 xs nx 4 188 [some (vR 0 (some 0)), some (vR 35 (some 0)), some (vR 79 (some 0)), some (vR 29 (some 0)), some (vR 80 (some 0)), some (vR 2 (some 0)), some (vI 1), some (vI (iN k)), some (vI (m 66 k)), some (vI (m 67 k)), some (vI dv)] [vI x, vI 47, vR 2 (some 0)] (c, a, q, J) = R1 xs nx 4 317 [some (vR 0 (some 0)), some (vR 35 (some 0)), some (vR 79 (some 0)), some (vR 29 (some 0)), some (vR 80 (some 0)), some (vR 2 (some 0)), some (vI 1), some (vI (iN k)), some (vI (m 66 k)), some (vI (m 67 k)), some (vI dv)] [] (c, a2, q, J) := by
  obtain ⟨hD, hD7⟩ := plB1 hJ hk
  have h23 := hJ.1.1.1
  have h27 := hJ.1.2.2.2.1.1
  have h28 := hJ.1.2.2.2.2.1.1
  have hdi : mIn (iN (plD c k)) 64 = true := iN_in hD (by decide)
  have hdn : (iN (plD c k)).toNatClampNeg = plD c k := i32_nat (by omega)
  obtain ⟨p0, p1, -⟩ := q148 (xs := xs) (nx := nx) (uM 2 (plD c k) (a 2 (plD c k) + 1) a, q, J) hJ hk
  obtain ⟨g1, g2, -⟩ := hJ.2.2.2.2.2.2.2.2.2.1
  have no3 : plS m k = 64 → (∀ t, t ≠ 2 → uM 2 (plD c k) (a 2 (plD c k) + 1) a t = a t) ∧ ∀ j, j < 64 → uM 2 (plD c k) (a 2 (plD c k) + 1) a 2 j = a 2 j + (if j = plD c k then 1 else 0) + (if j = plS m k then iN (plI c m k) else 0) := by
    intro e
    refine ⟨fun t ht => uM_ne ht, fun j hj => ?_⟩
    rw [upd1, if_neg (show ¬ j = plS m k by omega), Int32.add_zero]
  have ye3 : ∀ (s : Nat) (v : Int32), plS m k = s → v = iN (plI c m k) → s ≠ plD c k → (∀ t, t ≠ 2 → uM 2 s (uM 2 (plD c k) (a 2 (plD c k) + 1) a 2 s + v) (uM 2 (plD c k) (a 2 (plD c k) + 1) a) t = a t) ∧ ∀ j, j < 64 → uM 2 s (uM 2 (plD c k) (a 2 (plD c k) + 1) a 2 s + v) (uM 2 (plD c k) (a 2 (plD c k) + 1) a) 2 j = a 2 j + (if j = plD c k then 1 else 0) + (if j = plS m k then iN (plI c m k) else 0) := by
    intro s v e1 e2 e3
    refine ⟨fun t ht => by rw [uM_ne ht, uM_ne ht], fun j hj => ?_⟩
    rw [upd1, upd1, e1, e2]
  rw [d_4_188, hx, if_pos hdi, if_pos hdi]
  dsimp only
  rw [hdn]
  rcases plSt hJ hk with ⟨z, d, hd, h7, h3⟩ | ⟨z, d, hd, h7, h3⟩ | ⟨z, d, hd, h7, h3⟩ | ⟨z, d, hd, h7, h3⟩ | ⟨z, d, hd, h7, h3⟩ | ⟨z, d, hd, h7, h3, hcd⟩ | ⟨z, d, hd, h7, h3⟩ | ⟨z, h7, h3⟩ | ⟨z, h7, h3⟩
  · have eS : plS m k = 52 + d := by
      unfold plS plA
      rw [if_pos z, h7, i32_nat (show d < 2 ^ 31 by omega)]
    obtain ⟨d', n, d1, d2, d3, d4⟩ := p0 z
    have ed : d' = d := (iN_inj (by omega) (by omega)).mp (d2.symm.trans h7)
    subst ed
    have hL := g1 d' d1
    have hn : ixL k (fL c 3 d') = n := ixL_of (nLin_nd hL) d3
    have eI : (1 : Int32) + (1000 : Int32) * iN n = iN (plI c m k) := by
      unfold plI plA
      rw [if_pos z, h7, i32_nat (show d' < 2 ^ 31 by omega), hn, show (1000 : Int32) * iN n = iN (1000 * n) from (Int32.ofNat_mul 1000 n).symm]
      exact i32_add (a := 1)
    have e52 : (52 : Int32) + iN d' = iN (52 + d') := i32_add (a := 52)
    have hne : 52 + d' ≠ plD c k := by
      unfold plD
      rw [h3]
      dsimp only
      have := (hJ.2.2.2.1.1)
      omega
    obtain ⟨y1, y2⟩ := ye3 (52 + d') _ eS eI hne
    refine ⟨_, y1, y2, ?_⟩
    rw [z, h7, e52, if_pos (show (0 : Int32) = 0 from rfl), if_pos (iN_in (show 52 + d' < 64 by omega) (by decide)), d4, bI_Vl]
    dsimp only
    rw [i32_nat (show 52 + d' < 2 ^ 31 by omega)]
    rw [if_pos (iN_in (show 52 + d' < 64 by omega) (by decide))]
  · have eS : plS m k = 10 + d := by
      unfold plS plA
      rw [if_neg (show ¬ m 66 k = 0 by rw [z]; decide), if_pos z, h7, i32_nat (show d < 2 ^ 31 by omega)]
    obtain ⟨d', n, d1, d2, d3, d4⟩ := p1 z
    have ed : d' = d := (iN_inj (by omega) (by omega)).mp (d2.symm.trans h7)
    subst ed
    have hL := g2 d' d1
    have hn : ixL k (fL c 5 d') = n := ixL_of (nLin_nd hL) d3
    have eI : (1 : Int32) + (1000 : Int32) * iN n = iN (plI c m k) := by
      unfold plI plA
      rw [if_neg (show ¬ m 66 k = 0 by rw [z]; decide), if_pos z, h7, i32_nat (show d' < 2 ^ 31 by omega), hn, show (1000 : Int32) * iN n = iN (1000 * n) from (Int32.ofNat_mul 1000 n).symm]
      exact i32_add (a := 1)
    have e52 : (10 : Int32) + iN d' = iN (10 + d') := i32_add (a := 10)
    have hne : 10 + d' ≠ plD c k := by
      unfold plD
      rw [h3]
      dsimp only
      have := (hJ.2.2.2.1.1)
      omega
    obtain ⟨y1, y2⟩ := ye3 (10 + d') _ eS eI hne
    refine ⟨_, y1, y2, ?_⟩
    rw [z, h7, e52, if_neg (show ¬ (1 : Int32) = 0 by decide), if_pos (show (1 : Int32) = 1 from rfl), if_pos (iN_in (show 10 + d' < 64 by omega) (by decide)), d4, bI_Vl]
    dsimp only
    rw [i32_nat (show 10 + d' < 2 ^ 31 by omega)]
    rw [if_pos (iN_in (show 10 + d' < 64 by omega) (by decide))]
  · have eS : plS m k = 24 + d := by
      unfold plS plA
      rw [if_neg (show ¬ m 66 k = 0 by rw [z]; decide), if_neg (show ¬ m 66 k = 1 by rw [z]; decide), if_pos z, h7, i32_nat (show d < 2 ^ 31 by omega)]
    have eI : (1 : Int32) = iN (plI c m k) := by
      unfold plI
      rw [if_neg (show ¬ m 66 k = 0 by rw [z]; decide), if_neg (show ¬ m 66 k = 1 by rw [z]; decide)]
      rfl
    have e52 : (24 : Int32) + iN d = iN (24 + d) := i32_add (a := 24)
    have hne : 24 + d ≠ plD c k := by
      unfold plD
      rw [h3]
      dsimp only
      omega
    obtain ⟨y1, y2⟩ := ye3 (24 + d) _ eS eI hne
    refine ⟨_, y1, y2, ?_⟩
    rw [z, h7, e52, if_neg (show ¬ (2 : Int32) = 0 by decide), if_neg (show ¬ (2 : Int32) = 1 by decide), if_pos (show (2 : Int32) = 2 from rfl), if_pos (iN_in (show 24 + d < 64 by omega) (by decide)), if_pos (iN_in (show 24 + d < 64 by omega) (by decide)), i32_nat (show 24 + d < 2 ^ 31 by omega)]
  · have eS : plS m k = 64 := by
      unfold plS plA
      rw [if_neg (show ¬ m 66 k = 0 by rw [z]; decide), if_neg (show ¬ m 66 k = 1 by rw [z]; decide), if_neg (show ¬ m 66 k = 2 by rw [z]; decide), if_neg (show ¬ m 66 k = 4 by rw [z]; decide), if_neg (show ¬ m 66 k = 5 by rw [z]; decide)]
    obtain ⟨y1, y2⟩ := no3 eS
    refine ⟨_, y1, y2, ?_⟩
    rw [z, if_neg (show ¬ (3 : Int32) = 0 by decide), if_neg (show ¬ (3 : Int32) = 1 by decide), if_neg (show ¬ (3 : Int32) = 2 by decide), if_neg (show ¬ (3 : Int32) = 4 by decide), if_neg (show ¬ (3 : Int32) = 5 by decide)]
  · have eS : plS m k = 36 + d := by
      unfold plS plA
      rw [if_neg (show ¬ m 66 k = 0 by rw [z]; decide), if_neg (show ¬ m 66 k = 1 by rw [z]; decide), if_neg (show ¬ m 66 k = 2 by rw [z]; decide), if_pos z, h7, i32_nat (show d < 2 ^ 31 by omega)]
    have eI : (1 : Int32) = iN (plI c m k) := by
      unfold plI
      rw [if_neg (show ¬ m 66 k = 0 by rw [z]; decide), if_neg (show ¬ m 66 k = 1 by rw [z]; decide)]
      rfl
    have e52 : (36 : Int32) + iN d = iN (36 + d) := i32_add (a := 36)
    have hne : 36 + d ≠ plD c k := by
      unfold plD
      rw [h3]
      dsimp only
      omega
    obtain ⟨y1, y2⟩ := ye3 (36 + d) _ eS eI hne
    refine ⟨_, y1, y2, ?_⟩
    rw [z, h7, e52, if_neg (show ¬ (4 : Int32) = 0 by decide), if_neg (show ¬ (4 : Int32) = 1 by decide), if_neg (show ¬ (4 : Int32) = 2 by decide), if_pos (show (4 : Int32) = 4 from rfl), if_pos (iN_in (show 36 + d < 64 by omega) (by decide)), if_pos (iN_in (show 36 + d < 64 by omega) (by decide)), i32_nat (show 36 + d < 2 ^ 31 by omega)]
  · have eS : plS m k = 42 + d := by
      unfold plS plA
      rw [if_neg (show ¬ m 66 k = 0 by rw [z]; decide), if_neg (show ¬ m 66 k = 1 by rw [z]; decide), if_neg (show ¬ m 66 k = 2 by rw [z]; decide), if_neg (show ¬ m 66 k = 4 by rw [z]; decide), if_pos z, h7, i32_nat (show d < 2 ^ 31 by omega)]
    have eI : (1 : Int32) = iN (plI c m k) := by
      unfold plI
      rw [if_neg (show ¬ m 66 k = 0 by rw [z]; decide), if_neg (show ¬ m 66 k = 1 by rw [z]; decide)]
      rfl
    have e52 : (42 : Int32) + iN d = iN (42 + d) := i32_add (a := 42)
    have hne : 42 + d ≠ plD c k := by
      unfold plD
      rw [h3]
      dsimp only
      omega
    obtain ⟨y1, y2⟩ := ye3 (42 + d) _ eS eI hne
    refine ⟨_, y1, y2, ?_⟩
    rw [z, h7, e52, if_neg (show ¬ (5 : Int32) = 0 by decide), if_neg (show ¬ (5 : Int32) = 1 by decide), if_neg (show ¬ (5 : Int32) = 2 by decide), if_neg (show ¬ (5 : Int32) = 4 by decide), if_pos (show (5 : Int32) = 5 from rfl), if_pos (iN_in (show 42 + d < 64 by omega) (by decide)), if_pos (iN_in (show 42 + d < 64 by omega) (by decide)), i32_nat (show 42 + d < 2 ^ 31 by omega)]
  · have eS : plS m k = 64 := by
      unfold plS plA
      rw [if_neg (show ¬ m 66 k = 0 by rw [z]; decide), if_neg (show ¬ m 66 k = 1 by rw [z]; decide), if_neg (show ¬ m 66 k = 2 by rw [z]; decide), if_neg (show ¬ m 66 k = 4 by rw [z]; decide), if_neg (show ¬ m 66 k = 5 by rw [z]; decide)]
    obtain ⟨y1, y2⟩ := no3 eS
    refine ⟨_, y1, y2, ?_⟩
    rw [z, if_neg (show ¬ (6 : Int32) = 0 by decide), if_neg (show ¬ (6 : Int32) = 1 by decide), if_neg (show ¬ (6 : Int32) = 2 by decide), if_neg (show ¬ (6 : Int32) = 4 by decide), if_neg (show ¬ (6 : Int32) = 5 by decide)]
  · have eS : plS m k = 64 := by
      unfold plS plA
      rw [if_neg (show ¬ m 66 k = 0 by rw [z]; decide), if_neg (show ¬ m 66 k = 1 by rw [z]; decide), if_neg (show ¬ m 66 k = 2 by rw [z]; decide), if_neg (show ¬ m 66 k = 4 by rw [z]; decide), if_neg (show ¬ m 66 k = 5 by rw [z]; decide)]
    obtain ⟨y1, y2⟩ := no3 eS
    refine ⟨_, y1, y2, ?_⟩
    rw [z, if_neg (show ¬ (7 : Int32) = 0 by decide), if_neg (show ¬ (7 : Int32) = 1 by decide), if_neg (show ¬ (7 : Int32) = 2 by decide), if_neg (show ¬ (7 : Int32) = 4 by decide), if_neg (show ¬ (7 : Int32) = 5 by decide)]
  · have eS : plS m k = 64 := by
      unfold plS plA
      rw [if_neg (show ¬ m 66 k = 0 by rw [z]; decide), if_neg (show ¬ m 66 k = 1 by rw [z]; decide), if_neg (show ¬ m 66 k = 2 by rw [z]; decide), if_neg (show ¬ m 66 k = 4 by rw [z]; decide), if_neg (show ¬ m 66 k = 5 by rw [z]; decide)]
    obtain ⟨y1, y2⟩ := no3 eS
    refine ⟨_, y1, y2, ?_⟩
    rw [z, if_neg (show ¬ (8 : Int32) = 0 by decide), if_neg (show ¬ (8 : Int32) = 1 by decide), if_neg (show ¬ (8 : Int32) = 2 by decide), if_neg (show ¬ (8 : Int32) = 4 by decide), if_neg (show ¬ (8 : Int32) = 5 by decide)]
/-- what is checked of a parcel -/
theorem plcC (hJ : nJ κ i c m) {k : Nat} (hk : k < fN c 26) {dv : Int32} : R1 xs nx 4 317 [some (vR 0 (some 0)), some (vR 35 (some 0)), some (vR 79 (some 0)), some (vR 29 (some 0)), some (vR 80 (some 0)), some (vR 2 (some 0)), some (vI 1), some (vI (iN k)), some (vI (m 66 k)), some (vI (m 67 k)), some (vI dv)] [] (c, a, q, J) = R1 xs nx 4 75 [some (vR 0 (some 0)), some (vR 35 (some 0)), some (vR 79 (some 0)), some (vR 29 (some 0)), some (vR 80 (some 0)), some (vR 2 (some 0)), some (vI 1), some (vI (iN (k + 1))), some (vI (m 66 k)), some (vI (m 67 k)), some (vI dv)] [] (c, a, q, J) := by
  have h23 := hJ.1.1.1
  have h27 := hJ.1.2.2.2.1.1
  have h28 := hJ.1.2.2.2.2.1.1
  obtain ⟨-, -, p2⟩ := q148 (xs := xs) (nx := nx) (a, q, J) hJ hk
  have p6 := q146_6 (xs := xs) (nx := nx) (a, q, J) hJ hk
  rcases plSt hJ hk with ⟨z, d, hd, h7, h3⟩ | ⟨z, d, hd, h7, h3⟩ | ⟨z, d, hd, h7, h3⟩ | ⟨z, d, hd, h7, h3⟩ | ⟨z, d, hd, h7, h3⟩ | ⟨z, d, hd, h7, h3, hcd⟩ | ⟨z, d, hd, h7, h3⟩ | ⟨z, h7, h3⟩ | ⟨z, h7, h3⟩
  · rw [d_4_317, z, if_neg (show ¬ (6 : Int32) < 0 by decide), d_4_329, if_neg (show ¬ m 67 k = -1 by rw [h7]; exact iN_ne1 (by omega)), d_4_340, if_pos rfl, if_pos (show (0 : Int32) < 2 by decide), d_4_359, if_neg (show ¬ (0 : Int32) = 5 by decide), d_4_370, p6, if_neg (show ¬ m 66 k = 5 by rw [z]; decide), bI_Vl, if_neg (show ¬ (999 : Int32) < 0 by decide), d_4_389, if_pos rfl, d_4_397, iN_add1]
  · rw [d_4_317, z, if_neg (show ¬ (6 : Int32) < 1 by decide), d_4_329, if_neg (show ¬ m 67 k = -1 by rw [h7]; exact iN_ne1 (by omega)), d_4_340, if_pos rfl, if_pos (show (1 : Int32) < 2 by decide), d_4_359, if_neg (show ¬ (1 : Int32) = 5 by decide), d_4_370, p6, if_neg (show ¬ m 66 k = 5 by rw [z]; decide), bI_Vl, if_neg (show ¬ (999 : Int32) < 0 by decide), d_4_389, if_pos rfl, d_4_397, iN_add1]
  · rw [d_4_317, z, if_neg (show ¬ (6 : Int32) < 2 by decide), d_4_329, if_neg (show ¬ m 67 k = -1 by rw [h7]; exact iN_ne1 (by omega)), d_4_340, if_pos rfl, if_neg (show ¬ (2 : Int32) < 2 by decide), p2 (by rw [z]; decide) (by rw [z]; decide), bI_Vl, if_pos rfl, d_4_359, if_neg (show ¬ (2 : Int32) = 5 by decide), d_4_370, p6, if_neg (show ¬ m 66 k = 5 by rw [z]; decide), bI_Vl, if_neg (show ¬ (999 : Int32) < 0 by decide), d_4_389, if_pos rfl, d_4_397, iN_add1]
  · rw [d_4_317, z, if_neg (show ¬ (6 : Int32) < 3 by decide), d_4_329, if_neg (show ¬ m 67 k = -1 by rw [h7]; exact iN_ne1 (by omega)), d_4_340, if_pos rfl, if_neg (show ¬ (3 : Int32) < 2 by decide), p2 (by rw [z]; decide) (by rw [z]; decide), bI_Vl, if_pos rfl, d_4_359, if_neg (show ¬ (3 : Int32) = 5 by decide), d_4_370, p6, if_neg (show ¬ m 66 k = 5 by rw [z]; decide), bI_Vl, if_neg (show ¬ (999 : Int32) < 0 by decide), d_4_389, if_pos rfl, d_4_397, iN_add1]
  · rw [d_4_317, z, if_neg (show ¬ (6 : Int32) < 4 by decide), d_4_329, if_neg (show ¬ m 67 k = -1 by rw [h7]; exact iN_ne1 (by omega)), d_4_340, if_pos rfl, if_neg (show ¬ (4 : Int32) < 2 by decide), p2 (by rw [z]; decide) (by rw [z]; decide), bI_Vl, if_pos rfl, d_4_359, if_neg (show ¬ (4 : Int32) = 5 by decide), d_4_370, p6, if_neg (show ¬ m 66 k = 5 by rw [z]; decide), bI_Vl, if_neg (show ¬ (999 : Int32) < 0 by decide), d_4_389, if_pos rfl, d_4_397, iN_add1]
  · rw [d_4_317, z, if_neg (show ¬ (6 : Int32) < 5 by decide), d_4_329, if_neg (show ¬ m 67 k = -1 by rw [h7]; exact iN_ne1 (by omega)), d_4_340, if_pos rfl, if_neg (show ¬ (5 : Int32) < 2 by decide), p2 (by rw [z]; decide) (by rw [z]; decide), bI_Vl, if_pos rfl, d_4_359, if_pos rfl, d_4_370, p6, if_pos z, bI_Vl, if_pos (show (999 : Int32) < m 72 k by obtain ⟨n, n1, n2, n3⟩ := hcd; rw [n3]; exact (iN_lt (a := 999) (by omega) (by omega)).mpr (by omega)), d_4_389, if_pos rfl, d_4_397, iN_add1]
  · rw [d_4_317, z, if_neg (show ¬ (6 : Int32) < 6 by decide), d_4_329, if_neg (show ¬ m 67 k = -1 by rw [h7]; exact iN_ne1 (by omega)), d_4_340, if_pos rfl, if_neg (show ¬ (6 : Int32) < 2 by decide), p2 (by rw [z]; decide) (by rw [z]; decide), bI_Vl, if_pos rfl, d_4_359, if_neg (show ¬ (6 : Int32) = 5 by decide), d_4_370, p6, if_neg (show ¬ m 66 k = 5 by rw [z]; decide), bI_Vl, if_neg (show ¬ (999 : Int32) < 0 by decide), d_4_389, if_pos rfl, d_4_397, iN_add1]
  · rw [d_4_317, z, if_pos (show (6 : Int32) < 7 by decide), d_4_329, if_pos h7, d_4_340, if_pos rfl, if_neg (show ¬ (7 : Int32) < 2 by decide), p2 (by rw [z]; decide) (by rw [z]; decide), bI_Vl, if_pos rfl, d_4_359, if_neg (show ¬ (7 : Int32) = 5 by decide), d_4_370, p6, if_neg (show ¬ m 66 k = 5 by rw [z]; decide), bI_Vl, if_neg (show ¬ (999 : Int32) < 0 by decide), d_4_389, if_pos rfl, d_4_397, iN_add1]
  · rw [d_4_317, z, if_pos (show (6 : Int32) < 8 by decide), d_4_329, if_pos h7, d_4_340, if_pos rfl, if_neg (show ¬ (8 : Int32) < 2 by decide), p2 (by rw [z]; decide) (by rw [z]; decide), bI_Vl, if_pos rfl, d_4_359, if_neg (show ¬ (8 : Int32) = 5 by decide), d_4_370, p6, if_neg (show ¬ m 66 k = 5 by rw [z]; decide), bI_Vl, if_neg (show ¬ (999 : Int32) < 0 by decide), d_4_389, if_pos rfl, d_4_397, iN_add1]
/-- one parcel -/
theorem plcS (hJ : nJ κ i c m) (hA : pA κ a) {k : Nat} (hk : k < fN c 26) (l8 l9 l10 : Option nV) : ∃ (a2 : nM) (r8 r9 r10 : Option nV), (∀ t, t ≠ 2 → a2 t = a t) ∧ (∀ j, j < 64 → a2 2 j = a 2 j + iN (plT c m k j)) ∧
    R1 xs nx 4 75 [some (vR 0 (some 0)), some (vR 35 (some 0)), some (vR 79 (some 0)), some (vR 29 (some 0)), some (vR 80 (some 0)), some (vR 2 (some 0)), some (vI 1), some (vI (iN k)), l8, l9, l10] [] (c, a, q, J) = R1 xs nx 4 75 [some (vR 0 (some 0)), some (vR 35 (some 0)), some (vR 79 (some 0)), some (vR 29 (some 0)), some (vR 80 (some 0)), some (vR 2 (some 0)), some (vI 1), some (vI (iN (k + 1))), r8, r9, r10] [] (c, a2, q, J) := by
  obtain ⟨dv, x, hx, hA1⟩ := plcA (xs := xs) (nx := nx) (q := q) (J := J) hJ hA hk l8 l9 l10
  obtain ⟨a2, y1, y2, hB⟩ := plcB (xs := xs) (nx := nx) (q := q) (J := J) (a := uM 2 (plW m k) (a 2 (plW m k) + 1) a) (dv := dv) hJ hk hx
  refine ⟨a2, _, _, _, fun t ht => by rw [y1 t ht, uM_ne ht], fun j hj => ?_, by rw [hA1, hB]; exact plcC hJ hk⟩
  rw [y2 j hj, upd1]
  have one : ∀ p : Prop, ∀ [Decidable p], (if p then (1 : Int32) else 0) = iN (if p then 1 else 0) := fun p _ => by split <;> rfl
  have two : (if j = plS m k then iN (plI c m k) else 0) = iN (if j = plS m k then plI c m k else 0) := by split <;> rfl
  rw [one, one, two, Int32.add_assoc, Int32.add_assoc, show iN (if j = plD c k then 1 else 0) + iN (if j = plS m k then plI c m k else 0) = iN ((if j = plD c k then 1 else 0) + (if j = plS m k then plI c m k else 0)) from i32_add]
  unfold plT
  rw [show iN (if j = plW m k then 1 else 0) + iN ((if j = plD c k then 1 else 0) + (if j = plS m k then plI c m k else 0)) = iN ((if j = plW m k then 1 else 0) + ((if j = plD c k then 1 else 0) + (if j = plS m k then plI c m k else 0))) from i32_add, Nat.add_assoc]
theorem pA_2 {a2 : nM} (hA : pA κ a) (h : ∀ t, t ≠ 2 → a2 t = a t) : pA κ a2 := by
  unfold pA
  rw [h 80 (by decide), h 35 (by decide), h 45 (by decide), h 79 (by decide), h 29 (by decide)]
  exact hA
/-- all parcels -/
theorem plcL (hJ : nJ κ i c m) : ∀ (n k : Nat) (a : nM) (l8 l9 l10 : Option nV), k + n = fN c 26 → pA κ a → (∀ j, j < 64 → a 2 j = iN (zSm (fun x => plT c m x j) k)) → ∃ (a2 : nM) (r8 r9 r10 : Option nV), (∀ t, t ≠ 2 → a2 t = a t) ∧ (∀ j, j < 64 → a2 2 j = iN (zSm (fun x => plT c m x j) (fN c 26))) ∧
    R1 xs nx 4 75 [some (vR 0 (some 0)), some (vR 35 (some 0)), some (vR 79 (some 0)), some (vR 29 (some 0)), some (vR 80 (some 0)), some (vR 2 (some 0)), some (vI 1), some (vI (iN k)), l8, l9, l10] [] (c, a, q, J) = R1 xs nx 4 405 [some (vR 0 (some 0)), some (vR 35 (some 0)), some (vR 79 (some 0)), some (vR 29 (some 0)), some (vR 80 (some 0)), some (vR 2 (some 0)), some (vI 1), some (vI (iN (fN c 26))), r8, r9, r10] [] (c, a2, q, J) := by
  have h26 := hJ.1.2.2.1.1
  intro n
  induction n with
  | zero =>
    intro k a l8 l9 l10 e hA hT
    have ek : k = fN c 26 := by omega
    subst ek
    have g2 : a 80 2 = iN (fN c 26) := by rw [hA.1.2.2.1, (nJ_k hJ).1.2.2.1]
    refine ⟨a, l8, l9, l10, fun _ _ => rfl, hT, ?_⟩
    rw [d_4_75, if_pos i62]
    dsimp only
    simp only [t62, g2]
    rw [if_neg (iN_nlt (by omega) (by omega) (by omega))]
  | succ n ih =>
    intro k a l8 l9 l10 e hA hT
    obtain ⟨a1, s8, s9, s10, y1, y2, y3⟩ := plcS (xs := xs) (nx := nx) (q := q) (J := J) hJ hA (show k < fN c 26 by omega) l8 l9 l10
    obtain ⟨a2, r8, r9, r10, x1, x2, x3⟩ := ih (k + 1) a1 s8 s9 s10 (by omega) (pA_2 hA y1) (fun j hj => by rw [y2 j hj, hT j hj]; exact i32_add)
    exact ⟨a2, r8, r9, r10, fun t ht => by rw [x1 t ht, y1 t ht], x2, by rw [y3, x3]⟩
end PLC
end KAP
