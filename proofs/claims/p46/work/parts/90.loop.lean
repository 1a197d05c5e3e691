/-! ===== sums over all parcels; count ===== -/
section KAP
variable {κ : kP}
section OPH
variable {xs : Nat → Int32} {nx : Nat}
def nAcc (f : Nat → Int32) : Nat → Nat → Int32 → Int32
  | 0, _, a => a
  | m + 1, i, a => nAcc f m (i + 1) (a + f i)
theorem nAcc_cg {f g : Nat → Int32} {P : Nat} (h : ∀ k, k < P → f k = g k) : ∀ (m i : Nat) (a : Int32), i + m = P → nAcc f m i a = nAcc g m i a := by
  intro m
  induction m with
  | zero => intro i a _; rfl
  | succ m ih =>
    intro i a e
    show nAcc f m (i + 1) (a + f i) = nAcc g m (i + 1) (a + g i)
    rw [h i (by omega)]
    exact ih (i + 1) _ (by omega)
theorem nSumL {F : Int32 → Int32 → Option nOut} {f : Nat → Int32} {P : Nat} {s : nS} (step : ∀ i acc, i < P → F acc (iN i) = F (acc + f i) (iN (i + 1))) (fin : ∀ acc, F acc (iN P) = some (.inl (some (vI acc)), s)) : ∀ (m i : Nat) (acc : Int32), i + m = P → F acc (iN i) = some (.inl (some (vI (nAcc f m i acc))), s) := by
  intro m
  induction m with
  | zero =>
    intro i acc e
    have : i = P := by omega
    subst this
    exact fin acc
  | succ m ih =>
    intro i acc e
    rw [step i acc (by omega)]
    exact ih (i + 1) _ (by omega)
theorem iN_pos {n : Nat} (h : n < 2 ^ 31) : ¬ iN n < 0 := i32_pos h
theorem iN_in40 {n : Nat} (h : n < 40) : mIn (iN n) 40 = true := mIn_iff.mpr ⟨i32_pos (by omega), by rw [i32_nat (by omega)]; exact h⟩
theorem op28 : ∀ i, i < 512 → ∀ (a1 : Int32), nDoes κ pT pF i [(1, 1)] (fun s => R1 xs nx 147 0 [some (vR 0 (some 0)), some (vI a1), none, none] [] s) (fun s => R1 xs nx 243 0 [some (vR 1 (some 0)), some (vI a1), none, none] [] s) := by
  intro i hi a1 s hJ
  rcases wi79 (xs := xs) (nx := nx) a1 0 8 with ⟨h3, h4, -⟩ | ⟨h3, h4, h5, h6⟩
  · exact nFail (E := 1) (e := 1) (v := 0) hJ (by simp only [d_147_0, h3, bI, c80_0, bV, hE]) (fun z => by simp only [d_243_0, h4, bI, if_true, d_243_16, r172_1, n10, if_false]) rfl n10
  · obtain ⟨q1, q2, q3⟩ := hJ.1.2.2.1
    have hS := hJ.2.2.2.2.2.2.2.1
    have e9 : ∀ k, k < fN s.1 26 → (if s.2.1 66 k = a1 then (1 : Int32) else 0) = if fI s.1 9 k 0 = a1 then 1 else 0 := fun k hk => by rw [(hS k hk).1]
    refine nAsk (v := nAcc (fun k => if fI s.1 9 k 0 = a1 then 1 else 0) (fN s.1 26) 0 0) hJ ?_ (fun z => ?_)
    · simp only [d_147_0, h3, bI, c80_1, bV]
      refine nSumL (F := fun acc j => R1 xs nx 147 14 [some (vR 0 (some 0)), some (vI a1), some (vI acc), some (vI j)] [] s) (f := fun k => if fI s.1 9 k 0 = a1 then 1 else 0) (P := fN s.1 26) (fun k acc hk => ?_) (fun acc => ?_) (fN s.1 26) 0 0 (Nat.zero_add _)
      · show R1 xs nx 147 14 _ _ s = R1 xs nx 147 14 _ _ s
        rw [d_147_14, q3, List.length_range, if_pos ((iN_lt (by omega) (by omega)).mpr hk), if_neg (iN_pos (by omega)), i32_nat (by omega), List.getElem?_range hk, nn_some]
        by_cases e : fI s.1 9 k 0 = a1
        · rw [if_pos e, d_147_52, iN_add1, if_pos e]
        · rw [if_neg e, d_147_52, iN_add1, if_neg e]
      · show R1 xs nx 147 14 _ _ s = _
        rw [d_147_14, q3, List.length_range, if_neg (fun z => Nat.lt_irrefl _ ((iN_lt (by omega) (by omega)).mp z))]
    · simp only [d_243_0, h4, bI, n10, if_false, d_243_16, r172_0, if_true]
      rw [← nAcc_cg e9 (fN s.1 26) 0 0 (Nat.zero_add _)]
      refine nSumL (F := fun acc j => R1 xs nx 243 28 [some (vR 1 (some 0)), some (vI a1), some (vI acc), some (vI j)] [] (s.1, uM 1 76 0 s.2.1, z)) (f := fun k => if s.2.1 66 k = a1 then 1 else 0) (P := fN s.1 26) (fun k acc hk => ?_) (fun acc => ?_) (fN s.1 26) 0 0 (Nat.zero_add _)
      · show R1 xs nx 243 28 _ _ _ = R1 xs nx 243 28 _ _ _
        rw [d_243_28]
        simp (disch := decide) only [uM1_ne, uM_ne]
        rw [q2, if_pos ((iN_lt (by omega) (by omega)).mpr hk), if_pos (iN_in40 (by omega)), i32_nat (by omega)]
        by_cases e : s.2.1 66 k = a1
        · rw [if_pos e, d_243_52, iN_add1, if_pos e]
        · rw [if_neg e, d_243_52, iN_add1, if_neg e]
      · show R1 xs nx 243 28 _ _ _ = _
        rw [d_243_28]
        simp (disch := decide) only [uM1_ne, uM_ne]
        rw [q2, if_neg (fun z => Nat.lt_irrefl _ ((iN_lt (by omega) (by omega)).mp z))]
end OPH
end KAP
