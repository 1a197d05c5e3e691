/-! ===== cash ===== -/
section KAP
variable {κ : kP}
section OPJ
variable {xs : Nat → Int32} {nx : Nat}
theorem cash_loop {s : nS} {a1 : Int32} {d P : Nat} (hl : fL s.1 16 0 = List.range P) (hP : P ≤ 40) : ∀ (m i : Nat) (acc : Int32) (l5 : Option nV), i + m = P → R1 xs nx 155 11 [some (vR 0 (some 0)), some (vI a1), some (vR 21 (some d)), some (vI acc), some (vI (iN i)), l5] [] s = some (.inl (some (vI (nAcc (fun k => if fP s.1 8 k 5 = some d then fI s.1 8 k 1 else 0) m i acc))), s) := by
  intro m
  induction m with
  | zero =>
    intro i acc l5 e
    have : i = P := by omega
    subst this
    rw [d_155_11, hl, List.length_range, if_neg (fun z => Nat.lt_irrefl _ ((iN_lt (by omega) (by omega)).mp z))]
    rfl
  | succ m ih =>
    intro i acc l5 e
    rw [d_155_11, hl, List.length_range, if_pos ((iN_lt (by omega) (by omega)).mpr (by omega)), if_neg (iN_pos (by omega)), i32_nat (by omega), List.getElem?_range (by omega), nn_some]
    simp only [nAcc]
    by_cases h : fP s.1 8 i 5 = some d
    · rw [if_pos h, d_155_59, iN_add1, if_pos h]
      exact ih (i + 1) _ _ (by omega)
    · rw [if_neg h, d_155_59, iN_add1, if_neg h]
      exact ih (i + 1) _ _ (by omega)
theorem op35 : ∀ i, i < 512 → ∀ (a1 : Int32), nDoes κ pT pF i [(0, 1)] (fun s => R1 xs nx 155 0 [some (vR 0 (some 0)), some (vI a1), none, none, none, none] [] s) (fun s => R1 xs nx 250 0 [some (vR 1 (some 0)), some (vI a1), none, none] [] s) := by
  intro i hi a1 s hJ
  rcases dep78 (xs := xs) (nx := nx) a1 with ⟨h1, h2⟩ | ⟨d, hd, rfl, h1, h2⟩
  · exact nFail (E := 0) (e := 1) (v := 0) hJ (by simp only [d_155_0, h1, bR, hE]) (fun z => by simp only [d_250_0, h2, bI, if_true, d_250_13, r172_1, n10, if_false]) rfl n10
  · obtain ⟨q1, q2, q3⟩ := hJ.1.2.2.1
    have hP := hJ.2.2.2.2.2.1
    have hM := hJ.2.2.2.2.2.2.2.2.2.2.1
    have e10 : (10 : Int32) + iN d = iN (10 + d) := i32_add (a := 10)
    have e9 : ∀ k, k < fN s.1 26 → (if s.2.1 78 k = (10 : Int32) + iN d then s.2.1 56 k else 0) = if fP s.1 8 k 5 = some d then fI s.1 8 k 1 else 0 := fun k hk => by
      rw [(hP k hk).2.2.2.2.2.2.2.1.1, e10]
      by_cases h0 : s.2.1 56 k = 0
      · rw [h0]
        split <;> split <;> rfl
      · have h9 := (hM k hk).2.2.2.2.2.2.2.2 (by omega) h0
        cases hq : fP s.1 8 k 5 with
        | none =>
          rw [hq] at h9
          rw [if_neg (show ¬ (none : Option Nat) = some d by intro z; cases z), if_neg]
          rcases h9 with h | ⟨n, n1, n2, n3⟩
          · rw [h]
            exact fun z => absurd ((iN_inj (a := 0) (by omega) (by omega)).mp z) (by omega)
          · rw [n3]
            exact fun z => absurd ((iN_inj (by omega) (by omega)).mp z) (by omega)
        | some d' =>
          rw [hq] at h9
          have hd' := (hM k hk).2.2.2.2.2.2.2.1 d' hq
          have h9 : s.2.1 78 k = iN (10 + d') := h9
          by_cases hdd : d' = d
          · rw [if_pos (by rw [h9, hdd]), if_pos (by rw [hdd])]
          · rw [if_neg (by rw [h9]; exact fun z => hdd (by have := (iN_inj (by omega) (by omega)).mp z; omega)), if_neg (fun z => hdd (Option.some.inj z))]
    refine nAsk (v := nAcc (fun k => if fP s.1 8 k 5 = some d then fI s.1 8 k 1 else 0) (fN s.1 26) 0 0) hJ ?_ (fun z => ?_)
    · simp only [d_155_0, h1, bR, ntg_self]
      exact cash_loop q3 q1 (fN s.1 26) 0 0 _ (Nat.zero_add _)
    · simp only [d_250_0, h2, bI, n10, if_false, d_250_13, r172_0, if_true]
      rw [← nAcc_cg e9 (fN s.1 26) 0 0 (Nat.zero_add _)]
      refine nSumL (F := fun acc j => R1 xs nx 250 25 [some (vR 1 (some 0)), some (vI (iN d)), some (vI acc), some (vI j)] [] (s.1, uM 1 76 0 s.2.1, z)) (f := fun k => if s.2.1 78 k = (10 : Int32) + iN d then s.2.1 56 k else 0) (P := fN s.1 26) (fun k acc hk => ?_) (fun acc => ?_) (fN s.1 26) 0 0 (Nat.zero_add _)
      · show R1 xs nx 250 25 _ _ _ = R1 xs nx 250 25 _ _ _
        rw [d_250_25]
        simp (disch := decide) only [uM1_ne, uM_ne]
        rw [q2, if_pos ((iN_lt (by omega) (by omega)).mpr hk), if_pos (iN_in40 (by omega)), i32_nat (by omega)]
        by_cases e : s.2.1 78 k = (10 : Int32) + iN d
        · rw [if_pos e, if_pos (iN_in40 (by omega)), d_250_57, iN_add1, if_pos e]
        · rw [if_neg e, d_250_57, iN_add1, if_neg e]
      · show R1 xs nx 250 25 _ _ _ = _
        rw [d_250_25]
        simp (disch := decide) only [uM1_ne, uM_ne]
        rw [q2, if_neg (fun z => Nat.lt_irrefl _ ((iN_lt (by omega) (by omega)).mp z))]
end OPJ
end KAP
