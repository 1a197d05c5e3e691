/-! ===== the law: its numbers, its table of lanes ===== -/
section LAWA
variable {xs : Nat → Int32} {nx : Nat}
theorem and31 (v : Int32) : ∃ k, k < 2 ^ 31 ∧ v &&& 2147483647 = iN k := by
  refine ⟨(v &&& 2147483647).toBitVec.toNat, ?_, ?_⟩
  · rw [Int32.toBitVec_and, BitVec.toNat_and]
    exact Nat.lt_of_le_of_lt Nat.and_le_right (by decide)
  · apply Int32.toBitVec_inj.1
    show _ = BitVec.ofNat 32 _
    rw [BitVec.ofNat_toNat, BitVec.setWidth_eq]
theorem part_v (v : Int32) {n : Nat} (h0 : 0 < n) (hn : n < 2 ^ 31) : ∃ x, x < n ∧ (v &&& 2147483647) - (v &&& 2147483647) / iN n * iN n = iN x := by
  obtain ⟨k, hk, e⟩ := and31 v
  rw [e, iN_mod hk hn]
  exact ⟨k % n, Nat.mod_lt _ h0, rfl⟩
/-- a number of the script -/
theorem part3 (k : Nat) (hk : k < 2 ^ 31) (hnx : nx < 2 ^ 31) {n : Nat} (h0 : 0 < n) (hn : n < 2 ^ 31) : ∃ x, x < n ∧ ∀ s, R1 xs nx 3 0 [some (vR 127 (some 1)), some (vI (iN k)), some (vI (iN n)), none] [] s = some (.inl (some (vI (iN x))), s) := by
  have hz : ¬ iN n = 0 := fun z => by have := (iN_inj (b := 0) hn (by omega)).mp z; omega
  by_cases h : iN k < Int32.ofNat nx
  · obtain ⟨x, hx, e⟩ := part_v (xs k) h0 hn
    refine ⟨x, hx, fun s => ?_⟩
    have hk2 : k < nx := (iN_lt hk hnx).mp h
    rw [d_3_0, if_pos h, if_pos (mIn_iff.mpr ⟨i32_pos hk, by rw [i32_nat hk]; exact hk2⟩), i32_nat hk, d_3_25, if_neg hz, e]
  · obtain ⟨x, hx, e⟩ := part_v (659 * iN k + 541 * iN k * iN k) h0 hn
    refine ⟨x, hx, fun s => ?_⟩
    rw [d_3_0, if_neg h, d_3_25, if_neg hz, e]
/-- the law's rows of lanes: whence, where to, hours, whether it crosses -/
def wN (A B H X : Nat) : Nat := A + 10 * B + 100 * H + 10000 * X
theorem wN_a {A B H X : Nat} (hA : A < 5) (hB : B < 5) (hH : H < 100) : wN A B H X % 10 = A ∧ wN A B H X / 10 % 10 = B ∧ wN A B H X / 100 % 100 = H := by
  unfold wN
  omega
/-- the net's part of the law's arrays -/
def pA (κ : kP) (a : nM) : Prop :=
  (a 80 0 = iN (κ.2.1 23) ∧ a 80 1 = iN (κ.2.1 24) ∧ a 80 2 = iN (κ.2.1 26) ∧ a 80 3 = iN (κ.2.1 27) ∧ a 80 4 = iN (κ.2.1 28)) ∧
  (∀ l, l < κ.2.1 23 → ∃ H X, H ≤ 24 ∧ X ≤ 1 ∧ κ.2.2.2.1 l = iN H ∧ a 35 l = iN (wN (κ.2.2.1 l 1) (κ.2.2.1 l 2) H X)) ∧
  (∀ k, k < κ.2.1 24 → a 45 k = iN (κ.2.2.2.2.1 k 0)) ∧
  (∀ v, v < κ.2.1 27 → ∃ S, S ≤ 23 ∧ κ.2.2.2.2.2.2.1 v = iN S ∧ a 79 v = iN (κ.2.2.2.2.2.1 v 1 + 10 * S)) ∧
  (∀ l, l < κ.2.1 28 → ∃ C, C ≤ 15 ∧ κ.2.2.2.2.2.2.2.2 l = iN C ∧ a 29 l = iN (κ.2.2.2.2.2.2.2.1 l 1 + 10 * C))
/-- whether a lane goes from one depot to another in so many hours at most -/
def hasL (c : nC) (A B t : Nat) : Bool := decide (∃ l, l < fN c 23 ∧ fX c 23 l 1 = A ∧ fX c 23 l 2 = B ∧ ¬ iN t < fI c 23 l 3)
end LAWA
section KAP
variable {κ : kP} {xs : Nat → Int32} {nx : Nat} {i : Nat} {c : nC} {m a : nM}
theorem nJ_k (hJ : nJ κ i c m) : (κ.2.1 23 = fN c 23 ∧ κ.2.1 24 = fN c 24 ∧ κ.2.1 26 = fN c 26 ∧ κ.2.1 27 = fN c 27 ∧ κ.2.1 28 = fN c 28) ∧ κ.2.2.1 = fX c 23 ∧ (∀ l, κ.2.2.2.1 l = fI c 23 l 3) ∧ κ.2.2.2.2.1 = fX c 24 ∧ κ.2.2.2.2.2.1 = fX c 27 ∧ (∀ v, κ.2.2.2.2.2.2.1 v = fI c 27 v 3) ∧ κ.2.2.2.2.2.2.2.1 = fX c 28 ∧ ∀ l, l < fN c 28 → κ.2.2.2.2.2.2.2.2 l = m 89 (4 * l + 1) + m 89 (4 * l + 2) + m 89 (4 * l + 3) := by
  obtain ⟨⟨h1, h2, h3, h4, h5⟩, h6, h7, h8, h9, h10, h11, h12⟩ := hJ.2.2.2.2.2.2.2.2.2.2.2.2.2.2.2.1
  exact ⟨⟨h1.symm, h2.symm, h3.symm, h4.symm, h5.symm⟩, h6.symm, fun l => (h7 l).symm, h8.symm, h9.symm, fun v => (h10 v).symm, h11.symm, fun l hl => (h12 l hl).symm⟩
theorem nJ_han (hJ : nJ κ i c m) : nHan (fN c 26) (m 66) = κ.1 := hJ.2.2.2.2.2.2.2.2.2.2.2.2.2.2.2.2.1
theorem nJ_uni (hJ : nJ κ i c m) : gUni (fN c 26) (m 49) (m 50) := hJ.2.2.2.2.2.2.2.2.2.2.2.2.2.2.2.2.2.1
theorem nJ_row (hJ : nJ κ i c m) : gRow (fN c 23) (fL c 5) := hJ.2.2.2.2.2.2.2.2.2.2.2.2.2.2.2.2.2.2.1
theorem nJ_bko (hJ : nJ κ i c m) : gBko (fL c 19 0) (m 93) := hJ.2.2.2.2.2.2.2.2.2.2.2.2.2.2.2.2.2.2.2
theorem i60 : mIn (0 : Int32) 6 = true := by decide
theorem i61 : mIn (1 : Int32) 6 = true := by decide
theorem i62 : mIn (2 : Int32) 6 = true := by decide
theorem i63 : mIn (3 : Int32) 6 = true := by decide
theorem i64 : mIn (4 : Int32) 6 = true := by decide
theorem i65 : mIn (5 : Int32) 6 = true := by decide
theorem t60 : (0 : Int32).toNatClampNeg = 0 := rfl
theorem t61 : (1 : Int32).toNatClampNeg = 1 := rfl
theorem t62 : (2 : Int32).toNatClampNeg = 2 := rfl
theorem t63 : (3 : Int32).toNatClampNeg = 3 := rfl
theorem t64 : (4 : Int32).toNatClampNeg = 4 := rfl
theorem t65 : (5 : Int32).toNatClampNeg = 5 := rfl
/-- the row of a lane -/
theorem rowL (hJ : nJ κ i c m) (hA : pA κ a) {l : Nat} (hl : l < fN c 23) : ∃ H X, H ≤ 24 ∧ X ≤ 1 ∧ fI c 23 l 3 = iN H ∧ fX c 23 l 1 < 5 ∧ fX c 23 l 2 < 5 ∧ a 35 l = iN (wN (fX c 23 l 1) (fX c 23 l 2) H X) := by
  obtain ⟨⟨k1, -⟩, k2, k3, -⟩ := nJ_k hJ
  obtain ⟨H, X, h1, h2, h3, h4⟩ := hA.2.1 l (by rw [k1]; exact hl)
  obtain ⟨⟨e1, -⟩, ⟨e2, -⟩, -⟩ := hJ.2.2.2.1.1 l hl
  exact ⟨H, X, h1, h2, (k3 l).symm.trans h3, e1, e2, by rw [k2] at h4; exact h4⟩
theorem litT : (10 : Int32) = iN 10 := rfl
theorem litH : (100 : Int32) = iN 100 := rfl
/-- hasLane -/
theorem lane5 (hJ : nJ κ i c m) (hA : pA κ a) {A B t : Nat} (hA5 : A < 5) (hB5 : B < 5) (ht : t < 100000) (z : Nat × (Nat → Int64)) : R1 xs nx 5 0 [some (vR 35 (some 0)), some (vR 80 (some 0)), some (vI (iN A)), some (vI (iN B)), some (vI (iN t)), none, none] [] (c, a, z) = some (.inl (some (vI (if hasL c A B t = true then 1 else 0))), (c, a, z)) := by
  have h23 := hJ.1.1.1
  have g0 : a 80 0 = iN (fN c 23) := by rw [hA.1.1, (nJ_k hJ).1.1]
  have key : ∀ (n k : Nat) (b : Bool), k + n = fN c 23 → (b = true ↔ ∃ l, l < k ∧ fX c 23 l 1 = A ∧ fX c 23 l 2 = B ∧ ¬ iN t < fI c 23 l 3) → R1 xs nx 5 6 [some (vR 35 (some 0)), some (vR 80 (some 0)), some (vI (iN A)), some (vI (iN B)), some (vI (iN t)), some (vI (if b = true then 1 else 0)), some (vI (iN k))] [] (c, a, z) = some (.inl (some (vI (if hasL c A B t = true then 1 else 0))), (c, a, z)) := by
    intro n
    induction n with
    | zero =>
      intro k b e hb
      have hk : k = fN c 23 := by omega
      have e1 : (if b = true then (1 : Int32) else 0) = if hasL c A B t = true then 1 else 0 := by
        have : (b = true) ↔ hasL c A B t = true := by rw [hb, hk]; unfold hasL; rw [decide_eq_true_eq]
        by_cases h : b = true
        · rw [if_pos h, if_pos (this.mp h)]
        · rw [if_neg h, if_neg (fun w => h (this.mpr w))]
      rw [d_5_6, if_pos i60]
      dsimp only
      simp only [t60, g0]
      rw [if_neg (iN_nlt (by omega) (by omega) (by omega)), e1, if_pos]
      split
      · exact Or.inr rfl
      · exact Or.inl rfl
    | succ n ih =>
      intro k b e hb
      have hk : k < fN c 23 := by omega
      obtain ⟨H, X, h1, h2, h3, h4, h5, h6⟩ := rowL hJ hA hk
      obtain ⟨w1, w2, w3⟩ := wN_a (X := X) h4 h5 (show H < 100 by omega)
      have hw : wN (fX c 23 k 1) (fX c 23 k 2) H X < 100000 := by unfold wN; omega
      have x1 : a 35 k - a 35 k / 10 * 10 = iN (fX c 23 k 1) := by
        rw [h6]
        exact (iN_mod (b := 10) (by omega) (by omega)).trans (by rw [w1])
      have x2 : a 35 k / 10 - a 35 k / 10 / 10 * 10 = iN (fX c 23 k 2) := by
        have e : a 35 k / 10 = iN (wN (fX c 23 k 1) (fX c 23 k 2) H X / 10) := by
          rw [h6]
          exact iN_div (b := 10) (by omega) (by omega)
        rw [e]
        exact (iN_mod (b := 10) (by omega) (by omega)).trans (by rw [w2])
      have x3 : a 35 k / 100 - a 35 k / 100 / 100 * 100 = iN H := by
        have e : a 35 k / 100 = iN (wN (fX c 23 k 1) (fX c 23 k 2) H X / 100) := by
          rw [h6]
          exact iN_div (b := 100) (by omega) (by omega)
        rw [e]
        exact (iN_mod (b := 100) (by omega) (by omega)).trans (by rw [w3])
      have kin : mIn (iN k) 12 = true := iN_in (by omega) (by decide)
      have ken : (iN k).toNatClampNeg = k := i32_nat (by omega)
      have go : ∀ b' : Bool, (b' = true ↔ ∃ l, l < k + 1 ∧ fX c 23 l 1 = A ∧ fX c 23 l 2 = B ∧ ¬ iN t < fI c 23 l 3) → R1 xs nx 5 64 [some (vR 35 (some 0)), some (vR 80 (some 0)), some (vI (iN A)), some (vI (iN B)), some (vI (iN t)), some (vI (if b = true then 1 else 0)), some (vI (iN k))] [(vI (if b' = true then 1 else 0))] (c, a, z) = some (.inl (some (vI (if hasL c A B t = true then 1 else 0))), (c, a, z)) := by
        intro b' hb'
        rw [d_5_64, iN_add1]
        exact ih (k + 1) b' (by omega) hb'
      have yes : (b = true ∨ (fX c 23 k 1 = A ∧ fX c 23 k 2 = B ∧ ¬ iN t < fI c 23 k 3)) → R1 xs nx 5 59 [some (vR 35 (some 0)), some (vR 80 (some 0)), some (vI (iN A)), some (vI (iN B)), some (vI (iN t)), some (vI (if b = true then 1 else 0)), some (vI (iN k))] [] (c, a, z) = some (.inl (some (vI (if hasL c A B t = true then 1 else 0))), (c, a, z)) := by
        intro h
        rw [d_5_59]
        refine go true ⟨fun _ => ?_, fun _ => rfl⟩
        rcases h with h | h
        · obtain ⟨l, l1, l2⟩ := hb.mp h
          exact ⟨l, by omega, l2⟩
        · exact ⟨k, by omega, h⟩
      have no : ¬ b = true → ¬ (fX c 23 k 1 = A ∧ fX c 23 k 2 = B ∧ ¬ iN t < fI c 23 k 3) → R1 xs nx 5 63 [some (vR 35 (some 0)), some (vR 80 (some 0)), some (vI (iN A)), some (vI (iN B)), some (vI (iN t)), some (vI (if b = true then 1 else 0)), some (vI (iN k))] [] (c, a, z) = some (.inl (some (vI (if hasL c A B t = true then 1 else 0))), (c, a, z)) := by
        intro h h'
        rw [d_5_63]
        refine go false ⟨fun w => (by cases w), fun ⟨l, l1, l2⟩ => ?_⟩
        by_cases e : l = k
        · rw [e] at l2; exact absurd l2 h'
        · exact absurd (hb.mpr ⟨l, by omega, l2⟩) h
      rw [d_5_6, if_pos i60]
      dsimp only
      simp only [t60, g0]
      rw [if_pos ((iN_lt (by omega) (by omega)).mpr hk)]
      by_cases hbt : b = true
      · have hb1 : ¬ (if b = true then (1 : Int32) else 0) = 0 := by rw [if_pos hbt]; decide
        rw [if_neg hb1]
        exact yes (Or.inl hbt)
      · have hb0 : (if b = true then (1 : Int32) else 0) = 0 := if_neg hbt
        rw [if_pos hb0, if_pos kin, ken, x1]
        by_cases q1 : fX c 23 k 1 = A
        · rw [if_pos (congrArg iN q1), if_pos kin, x2]
          by_cases q2 : fX c 23 k 2 = B
          · rw [if_pos (congrArg iN q2), if_pos kin, x3, ← h3]
            by_cases q3 : iN t < fI c 23 k 3
            · rw [if_pos q3]
              exact no hbt (fun w => w.2.2 q3)
            · rw [if_neg q3]
              exact yes (Or.inr ⟨q1, q2, q3⟩)
          · rw [if_neg (fun w => q2 ((iN_inj (by omega) (by omega)).mp w))]
            exact no hbt (fun w => q2 w.2.1)
        · rw [if_neg (fun w => q1 ((iN_inj (by omega) (by omega)).mp w))]
          exact no hbt (fun w => q1 w.1)
  rw [d_5_0]
  exact key (fN c 23) 0 false (Nat.zero_add _) ⟨fun w => (by cases w), fun ⟨l, l1, _⟩ => absurd l1 (Nat.not_lt_zero l)⟩
end KAP
