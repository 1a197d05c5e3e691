/-! ===== the start, and the run of the law: made by wip/p46/gen2/mk98zy.py ===== -/
/-- what the other memory holds at the start -/
def gm0 : nM := fun t j => if t = 29 then 10 else if t = 34 then -1 else 0
section ORH
variable {xs : Nat → Int32} {nx : Nat}
theorem nJ_0 : nJ (kNet 0 (fun _ => 0) nS0.1) 0 nS0.1 gm0 := by
  have z0 : nIn (0 : Int32) 0 0 := ⟨0, Nat.le_refl _, Nat.le_refl _, rfl⟩
  have zi : ∀ b : Nat, nIn (0 : Int32) 0 b := fun b => ⟨0, Nat.le_refl _, Nat.zero_le _, rfl⟩
  have r29 : ∀ j, gm0 29 j = 10 := fun _ => rfl
  have r34 : ∀ j, gm0 34 j = -1 := fun _ => rfl
  have rz : ∀ t j, t ≠ 29 → t ≠ 34 → gm0 t j = 0 := fun t j h1 h2 => by
    show (if t = 29 then (10 : Int32) else if t = 34 then -1 else 0) = 0
    rw [if_neg h1, if_neg h2]
  have iz : ∀ t k j, (t ≠ 21 ∨ j ≠ 3) → fI nS0.1 t k j = 0 := fun t k j h => by
    show (if t = 21 ∧ j = 3 then (10 : Int32) else 0) = 0
    rw [if_neg (fun z => h.elim (fun y => y z.1) (fun y => y z.2))]
  have i3 : ∀ k, fI nS0.1 21 k 3 = 10 := fun k => rfl
  have hN : ∀ t, fN nS0.1 t = 0 := fun _ => rfl
  have hL : ∀ t k, fL nS0.1 t k = [] := fun _ _ => rfl
  have hP : ∀ t k j, fP nS0.1 t k j = none := fun _ _ _ => rfl
  unfold nJ
  refine ⟨?_, ?_, fun d hd => ?_, ⟨fun l hl => ?_, fun l _ _ => rz 40 l (by decide) (by decide)⟩, ⟨fun a ha => ?_, fun a _ _ => ⟨rz 47 a (by decide) (by decide), rz 48 a (by decide) (by decide)⟩⟩, fun k hk => ?_, fun k _ _ => ?_, fun k hk => ?_, ⟨⟨fun k hk => ?_, fun k k' hk => ?_⟩, fun k hk => ?_⟩, ⟨fun d hd => ?_, fun l hl => ?_, fun l hl => ?_⟩, fun k hk => ?_, ⟨fun v hv => ?_, fun v v' k hv => ?_, fun v hv => ?_⟩, fun l hl => ?_, ⟨fun x b hx => ?_, fun k hk => ?_, fun b hb => ?_⟩, fun u hu => ?_, ⟨⟨rfl, rfl, rfl, rfl, rfl⟩, rfl, fun _ => rfl, rfl, rfl, fun _ => rfl, rfl, fun l hl => absurd hl (Nat.not_lt_zero _)⟩, rfl, fun j k _ hk => absurd hk (Nat.not_lt_zero _), fun l hl => absurd hl (Nat.not_lt_zero _), fun i j _ hj => ?_⟩
  · unfold gCnt
    rw [rz 1 8 (by decide) (by decide), rz 1 19 (by decide) (by decide), rz 1 24 (by decide) (by decide), rz 1 55 (by decide) (by decide), rz 1 65 (by decide) (by decide), rz 1 69 (by decide) (by decide)]
    simp only [hN, hL]
    refine ⟨⟨by omega, rfl, rfl⟩, ⟨by omega, rfl, rfl⟩, ⟨by omega, rfl, rfl⟩, ⟨by omega, rfl, rfl⟩, ⟨by omega, rfl, rfl⟩, by simp, by simp, rfl⟩
  · refine ⟨by rw [iz 0 0 9 (Or.inl (by decide)), rz 1 0 (by decide) (by decide)], 0, 0, by omega, by rw [rz 1 0 (by decide) (by decide)]; rfl, by rw [rz 1 1 (by decide) (by decide)]; rfl, by decide⟩
  · refine ⟨⟨by rw [i3, r29], ?_⟩, ⟨by rw [iz 21 d 4 (Or.inr (by decide)), rz 30 d (by decide) (by decide)], ?_⟩, ⟨?_, fun _ => ?_⟩, ⟨by rw [iz 21 d 6 (Or.inr (by decide)), rz 32 d (by decide) (by decide)], ?_⟩, ⟨by rw [iz 21 d 7 (Or.inr (by decide)), rz 33 d (by decide) (by decide)], ?_⟩, fun j hj => ?_⟩
    · rw [r29]; exact ⟨10, by omega, by omega, rfl⟩
    · rw [rz 30 d (by decide) (by decide)]; exact zi _
    · rw [iz 21 d 5 (Or.inr (by decide))]; exact zi _
    · rw [rz 31 d (by decide) (by decide), rz 1 0 (by decide) (by decide), iz 21 d 5 (Or.inr (by decide))]
      decide
    · rw [rz 32 d (by decide) (by decide)]; exact zi _
    · rw [rz 33 d (by decide) (by decide)]; exact zi _
    · rw [hP, r34]
  · exact absurd hl (Nat.not_lt_zero _)
  · exact absurd ha (Nat.not_lt_zero _)
  · exact absurd hk (Nat.not_lt_zero _)
  · exact ⟨rz 55 k (by decide) (by decide), rz 56 k (by decide) (by decide), rz 57 k (by decide) (by decide), rz 63 k (by decide) (by decide), rz 64 k (by decide) (by decide), rz 65 k (by decide) (by decide), rz 77 k (by decide) (by decide), rz 78 k (by decide) (by decide)⟩
  · exact absurd hk (Nat.not_lt_zero _)
  · exact absurd hk (Nat.not_lt_zero _)
  · exact absurd hk (Nat.not_lt_zero _)
  · exact absurd hk (Nat.not_lt_zero _)
  · refine ⟨fun k => ⟨fun h => (by rw [hL] at h; cases h), fun h => absurd h.1 (Nat.not_lt_zero _)⟩, ?_⟩
    rw [hL]
    exact List.Pairwise.nil
  · exact absurd hl (Nat.not_lt_zero _)
  · exact absurd hl (Nat.not_lt_zero _)
  · exact absurd hk (Nat.not_lt_zero _)
  · exact absurd hv (Nat.not_lt_zero _)
  · exact absurd hv (Nat.not_lt_zero _)
  · exact ⟨by rw [rz 84 v (by decide) (by decide)]; exact zi _, fun _ => rz 83 v (by decide) (by decide)⟩
  · exact absurd hl (Nat.not_lt_zero _)
  · rw [hL] at hx; simp at hx
  · exact absurd hk (Nat.not_lt_zero _)
  · rw [hL] at hb; cases hb
  · rw [iz 22 u 1 (Or.inl (by decide)), rz 90 u (by decide) (by decide)]
  · rw [hL] at hj
    exact absurd hj (Nat.not_lt_zero _)
theorem pA_0 : pA (kNet 0 (fun _ => 0) nS0.1) nS0.2.1 := ⟨⟨rfl, rfl, rfl, rfl, rfl⟩, fun l hl => absurd hl (Nat.not_lt_zero _), fun l hl => absurd hl (Nat.not_lt_zero _), fun l hl => absurd hl (Nat.not_lt_zero _), fun l hl => absurd hl (Nat.not_lt_zero _)⟩
theorem nAll (hnx : nx ≤ 260) : ∃ (n : Nat) (σ1 : mS), mX mF mHs mFk xs nx n 0 0 (mL0 [.ref mSCR] 16) [] (fun _ => none, fun _ => 0, 0, 0) = some (.inl (some (.int 1)), σ1) ∧ σ1.2.2.1 ≤ 200000 ∧ σ1.2.2.2 ≤ 2000000 := by
  refine nRuns ?_
  obtain ⟨κ', i', c', m', a', q', h1, h2, h3⟩ := lw41 (xs := xs) (nx := nx) (q := 0) (J := fun _ => 0) (by omega) nJ_0 pA_0 rfl rfl rfl
  have hr : R1 xs nx 0 41 [some (vR 127 (some 1)), some (vR 0 (some 0)), some (vR 35 (some 0)), some (vR 45 (some 0)), some (vR 79 (some 0)), some (vR 29 (some 0)), some (vR 80 (some 0)), some (vR 2 (some 0)), none, none, none, none, none, none, none, none] [] nS0 = some (.inl (some (vI 1)), (c', a', q', fun _ => 0)) := h3
  obtain ⟨n, hn⟩ := R1_iff.mp hr
  have hc := h2.1
  refine ⟨n, _, hn, hc.1.1, hc.2.1.1, Nat.le_trans hc.2.2.2.2.2.1 hc.2.2.2.2.2.2.1, hc.2.2.1.1, hc.2.2.2.1.1, hc.2.2.2.2.1.1, ?_⟩
  show q' ≤ 100000
  omega
end ORH
