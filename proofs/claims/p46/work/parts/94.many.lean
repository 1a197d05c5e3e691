/-! ===== how many are in a line; onLane ===== -/
section KAP
variable {κ : kP}
section OPM
variable {xs : Nat → Int32} {nx : Nat}
theorem nAcc_cnt {p : Nat → Prop} [DecidablePred p] : ∀ (m i : Nat) (b : Nat), nAcc (fun k => if p k then 1 else 0) m i (iN b) = iN (b + ((List.range' i m).filter fun k => p k).length) := by
  intro m
  induction m with
  | zero => intro i b; rfl
  | succ m ih =>
    intro i b
    rw [List.range'_succ, List.filter_cons]
    simp only [nAcc]
    by_cases h : p i
    · rw [if_pos h, iN_add1, ih (i + 1) (b + 1)]
      simp only [h, decide_true, if_true, List.length_cons]
      congr 1
      omega
    · rw [if_neg h, show iN b + 0 = iN b from i32_add (b := 0), ih (i + 1) b]
      simp [h]
theorem nLin_len {P : Nat} {w a o : Nat → Int32} {x y : Int32} {l : List Nat} (h : nLin P w a o x y l) : l.length = ((List.range' 0 P).filter fun k => decide (w k = x ∧ a k = y)).length := by
  refine List.Perm.length_eq ((List.perm_ext_iff_of_nodup ?_ ?_).mpr fun k => ?_)
  · refine h.2.imp ?_
    intro j k hjk e
    subst e
    exact absurd hjk (by rw [Int32.lt_iff_toInt_lt]; omega)
  · exact List.Pairwise.filter _ (List.nodup_range' (s := 0) (n := P))
  · rw [h.1 k, List.mem_filter, List.mem_range'_1]
    simp
theorem many206 {a1 a2 : Int32} {P : Nat} {s : nS} (hu : s.2.1 1 24 = iN P) (hP : P ≤ 40) : R1 xs nx 206 0 [some (vR 1 (some 0)), some (vI a1), some (vI a2), none, none] [] s = some (.inl (some (vI (iN ((List.range' 0 P).filter fun k => decide (s.2.1 66 k = a1 ∧ s.2.1 67 k = a2)).length))), s) := by
  rw [d_206_0]
  have h := nAcc_cnt (p := fun k => s.2.1 66 k = a1 ∧ s.2.1 67 k = a2) P 0 0
  rw [Nat.zero_add] at h
  rw [← h]
  refine nSumL (F := fun acc j => R1 xs nx 206 5 [some (vR 1 (some 0)), some (vI a1), some (vI a2), some (vI acc), some (vI j)] [] s) (f := fun k => if s.2.1 66 k = a1 ∧ s.2.1 67 k = a2 then 1 else 0) (P := P) (fun k acc hk => ?_) (fun acc => ?_) P 0 0 (Nat.zero_add _)
  · show R1 xs nx 206 5 _ _ _ = R1 xs nx 206 5 _ _ _
    rw [d_206_5, hu, if_pos ((iN_lt (by omega) (by omega)).mpr hk), if_pos (iN_in40 (by omega)), i32_nat (by omega)]
    by_cases e : s.2.1 66 k = a1
    · rw [if_pos e, if_pos (iN_in40 (by omega))]
      by_cases e' : s.2.1 67 k = a2
      · rw [if_pos e', d_206_42, iN_add1, if_pos ⟨e, e'⟩]
      · rw [if_neg e', d_206_41, d_206_42, iN_add1, if_neg (fun z => e' z.2)]
    · rw [if_neg e, d_206_41, d_206_42, iN_add1, if_neg (fun z => e z.1)]
  · show R1 xs nx 206 5 _ _ _ = _
    rw [d_206_5, hu, if_neg (fun z => Nat.lt_irrefl _ ((iN_lt (by omega) (by omega)).mp z))]
theorem op31 : ∀ i, i < 512 → ∀ (a1 : Int32), nDoes κ pT pF i [(0, 1)] (fun s => R1 xs nx 150 0 [some (vR 0 (some 0)), some (vI a1)] [] s) (fun s => R1 xs nx 246 0 [some (vR 1 (some 0)), some (vI a1)] [] s) := by
  intro i hi a1 s hJ
  rcases idx86 (xs := xs) (nx := nx) hJ a1 with ⟨h1, h2⟩ | ⟨k, hk, ea, hin, en, h1, h2⟩
  · exact nFail (E := 0) (e := 1) (v := 0) hJ (by simp only [d_150_0, h1 s rfl, bR, hE]) (fun z => by simp only [d_246_0, h2 (s.1, s.2.1, z) rfl, bI, if_true, d_246_14, r172_1, n10, if_false]) rfl n10
  · obtain ⟨q1, q2, q3⟩ := hJ.1.2.2.1
    have hL := nLin_len ((hJ.2.2.2.2.2.2.2.2.2.1).2.2 k hk).1
    refine nAsk (v := iN (fL s.1 6 k).length) hJ (by simp only [d_150_0, h1 s rfl, bR, ntg_self, nn_some]) (fun z => ?_)
    have hm := many206 (xs := xs) (nx := nx) (a1 := 2) (a2 := a1) (s := (s.1, uM 1 76 0 s.2.1, z)) (P := fN s.1 26) (by show uM 1 76 0 s.2.1 1 24 = _; rw [uM1_ne (by decide)]; exact q2) q1
    simp (disch := decide) only [uM_ne] at hm
    rw [hL, ← ea]
    simp only [d_246_0, h2 (s.1, s.2.1, z) rfl, bI, n10, if_false, d_246_14, r172_0, if_true, hm]
end OPM
end KAP
