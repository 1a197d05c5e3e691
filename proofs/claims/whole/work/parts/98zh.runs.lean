/-! ===== the start, and the run of the law ===== -/
section ORH
variable {xs : Nat → Int32} {nx : Nat}
theorem nJ_0 {fs fp : Nat → Int32} (hfs : ∀ j, j < 5 → fs j = 10) (hfp : ∀ j, j < 50 → fp j = -1) : nJ 0 (nS0 fs fp).1 (nS0 fs fp).2.1 := by
  have z0 : nIn (0 : Int32) 0 0 := ⟨0, Nat.le_refl _, Nat.le_refl _, rfl⟩
  have zi : ∀ b : Nat, nIn (0 : Int32) 0 b := fun b => ⟨0, Nat.le_refl _, Nat.zero_le _, rfl⟩
  have r29 : (nS0 fs fp).2.1 29 = fs := rfl
  have r34 : (nS0 fs fp).2.1 34 = fp := rfl
  have rz : ∀ t j, t ≠ 29 → t ≠ 34 → (nS0 fs fp).2.1 t j = 0 := fun t j h1 h2 => by
    show (if t = 29 then fs else if t = 34 then fp else fun _ => 0) j = 0
    rw [if_neg h1, if_neg h2]
  have iz : ∀ t k j, (t ≠ 21 ∨ j ≠ 3) → fI (nS0 fs fp).1 t k j = 0 := fun t k j h => by
    show (if t = 21 ∧ j = 3 then (10 : Int32) else 0) = 0
    rw [if_neg (fun z => h.elim (fun y => y z.1) (fun y => y z.2))]
  have i3 : ∀ k, fI (nS0 fs fp).1 21 k 3 = 10 := fun k => rfl
  have hN : ∀ t, fN (nS0 fs fp).1 t = 0 := fun _ => rfl
  have hL : ∀ t k, fL (nS0 fs fp).1 t k = [] := fun _ _ => rfl
  have hP : ∀ t k j, fP (nS0 fs fp).1 t k j = none := fun _ _ _ => rfl
  unfold nJ
  refine ⟨?_, ?_, fun d hd => ?_, ⟨fun l hl => ?_, fun l _ _ => rz 40 l (by decide) (by decide)⟩, ⟨fun a ha => ?_, fun a _ _ => ⟨rz 47 a (by decide) (by decide), rz 48 a (by decide) (by decide)⟩⟩, fun k hk => ?_, fun k _ _ => ?_, fun k hk => ?_, ⟨⟨fun k hk => ?_, fun k k' hk => ?_⟩, fun k hk => ?_⟩, ⟨fun d hd => ?_, fun l hl => ?_, fun l hl => ?_⟩, fun k hk => ?_, ⟨fun v hv => ?_, fun v v' k hv => ?_, fun v hv => ?_⟩, fun l hl => ?_, ⟨fun x b hx => ?_, fun k hk => ?_, fun b hb => ?_⟩, fun u hu => ?_⟩
  · unfold gCnt
    rw [rz 1 8 (by decide) (by decide), rz 1 19 (by decide) (by decide), rz 1 24 (by decide) (by decide), rz 1 55 (by decide) (by decide), rz 1 65 (by decide) (by decide), rz 1 69 (by decide) (by decide)]
    simp only [hN, hL]
    refine ⟨⟨by omega, rfl, rfl⟩, ⟨by omega, rfl, rfl⟩, ⟨by omega, rfl, rfl⟩, ⟨by omega, rfl, rfl⟩, ⟨by omega, rfl, rfl⟩, by simp, by simp, rfl⟩
  · refine ⟨by rw [iz 0 0 9 (Or.inl (by decide)), rz 1 0 (by decide) (by decide)], 0, 0, by omega, by rw [rz 1 0 (by decide) (by decide)]; rfl, by rw [rz 1 1 (by decide) (by decide)]; rfl, by decide⟩
  · refine ⟨⟨by rw [i3, r29, hfs d hd], ?_⟩, ⟨by rw [iz 21 d 4 (Or.inr (by decide)), rz 30 d (by decide) (by decide)], ?_⟩, ⟨?_, fun _ => ?_⟩, ⟨by rw [iz 21 d 6 (Or.inr (by decide)), rz 32 d (by decide) (by decide)], ?_⟩, ⟨by rw [iz 21 d 7 (Or.inr (by decide)), rz 33 d (by decide) (by decide)], ?_⟩, fun j hj => ?_⟩
    · rw [r29, hfs d hd]; exact ⟨10, by omega, by omega, rfl⟩
    · rw [rz 30 d (by decide) (by decide)]; exact zi _
    · rw [iz 21 d 5 (Or.inr (by decide))]; exact zi _
    · rw [rz 31 d (by decide) (by decide), rz 1 0 (by decide) (by decide), iz 21 d 5 (Or.inr (by decide))]
      decide
    · rw [rz 32 d (by decide) (by decide)]; exact zi _
    · rw [rz 33 d (by decide) (by decide)]; exact zi _
    · rw [hP, r34]
      exact hfp _ (by omega)
  · exact absurd hl (Nat.not_lt_zero _)
  · exact absurd ha (Nat.not_lt_zero _)
  · exact absurd hk (Nat.not_lt_zero _)
  · exact ⟨rz 55 k (by decide) (by decide), rz 56 k (by decide) (by decide), rz 57 k (by decide) (by decide), rz 63 k (by decide) (by decide), rz 64 k (by decide) (by decide), rz 65 k (by decide) (by decide), rz 77 k (by decide) (by decide), rz 78 k (by decide) (by decide)⟩
  · exact absurd hk (Nat.not_lt_zero _)
  · exact absurd hk (Nat.not_lt_zero _)
  · exact absurd hk (Nat.not_lt_zero _)
  · exact absurd hk (Nat.not_lt_zero _)
  · refine ⟨fun k => ⟨fun h => (by rw [hL] at h; cases h), fun h => absurd h.1 (Nat.not_lt_zero _)⟩, ?_⟩
    rw [hL]
    exact List.Pairwise.nil
  · exact absurd hl (Nat.not_lt_zero _)
  · exact absurd hl (Nat.not_lt_zero _)
  · exact absurd hk (Nat.not_lt_zero _)
  · exact absurd hv (Nat.not_lt_zero _)
  · exact absurd hv (Nat.not_lt_zero _)
  · exact ⟨by rw [rz 84 v (by decide) (by decide)]; exact zi _, fun _ => rz 83 v (by decide) (by decide)⟩
  · exact absurd hl (Nat.not_lt_zero _)
  · rw [hL] at hx; simp at hx
  · exact absurd hk (Nat.not_lt_zero _)
  · rw [hL] at hb; cases hb
  · rw [iz 22 u 1 (Or.inl (by decide)), rz 90 u (by decide) (by decide)]
theorem nOps_all : nOps xs nx nJ := ⟨fun _ _ _ hi h => nJ_up h (by omega), op0, op1, op2, op3, op4, op5, op6, op7, op8, op9, op10, op11, op12, op13, op14, op15, op16, op17, op18, op19, op20, op21, op22, op23, op24, op25, op26, op27, op28, op29, op30, op31, op32, op33, op34, op35, op36, op37, op38, op39, op40, op41, op42⟩
theorem nAll (hnx : nx ≤ 3584) : ∃ (n : Nat) (σ1 : mS), mX mF mHs mFk xs nx n 0 0 (mL0 [.ref mSCR] 7) [] (fun _ => none, fun _ => 0, 0, 0) = some (.inl (some (.int 1)), σ1) ∧ σ1.2.2.1 ≤ 200000 ∧ σ1.2.2.2 ≤ 2000000 := by
  refine nRuns (fun fs fp hfs hfp => ?_)
  obtain ⟨s', j, h1, h2, h3, h4⟩ := nLawRun (xs := xs) (nx := nx) (Inv := nJ) nOps_all hnx 513 0 (nS0 fs fp) none none (by omega) (by omega) (nJ_0 hfs hfp) (Nat.le_refl _)
  have hr : R1 xs nx 0 20 [some (vR 127 (some 1)), some (vR 0 (some 0)), some (vR 1 (some 0)), some (vR 2 (some 0)), none, none, none] [] (nS0 fs fp) = some (.inl (some (vI 1)), s') := by
    rw [d_0_20]
    exact h1
  obtain ⟨n, hn⟩ := R1_iff.mp hr
  have hc := h3.1
  exact ⟨n, s', hn, hc.1.1, hc.2.1.1, Nat.le_trans hc.2.2.2.2.2.1 hc.2.2.2.2.2.2.1, hc.2.2.1.1, hc.2.2.2.1.1, hc.2.2.2.2.1.1, by omega⟩
end ORH
