/-! ===== promise, doubt ===== -/
section KAP
variable {κ : kP}
section OPG
variable {xs : Nat → Int32} {nx : Nat}
/-- promise -/
abbrev zP10 (κ : kP) (a1 a2 a3 a4 : Int32) (c : nC) (m : nM) (κ' : kP) (c' : nC) (m' : nM) (v : Int32) : Prop := ∃ k, k < fN c 26 ∧ a1 = iN k ∧ ¬ a2 < 0 ∧ ¬ 23 < a2 ∧ ¬ a3 < a2 + 1 ∧ ¬ 24 < a3 ∧ ¬ a4 < 1 ∧ ¬ 200 < a4 ∧ ¬ m 62 k = 0 ∧ κ' = κ ∧ v = m 1 0 + a4 ∧ m' = uM 59 k (m 1 0 + a4) (uM 58 k a3 (uM 57 k a2 (uM 1 76 0 m))) ∧ fX c' = fX c ∧ m' 1 0 = m 1 0
abbrev zF10 (a1 a2 a3 a4 : Int32) (c : nC) (m : nM) (E : Nat) : Prop := f3 (¬ (∃ k, k < fN c 26 ∧ a1 = iN k)) (a2 < 0 ∨ 23 < a2 ∨ a3 < a2 + 1 ∨ 24 < a3 ∨ a4 < 1 ∨ 200 < a4) (∃ k, k < fN c 26 ∧ a1 = iN k ∧ m 62 k = 0 ∧ ¬ a3 < a2 + 1) E
theorem op10 : ∀ i, i < 512 → ∀ (a1 a2 a3 a4 : Int32), nDoes κ (zP10 κ a1 a2 a3 a4) (zF10 a1 a2 a3 a4) i [(0, 1), (1, 2), (2, 3)] (fun s => R1 xs nx 99 0 [some (vR 0 (some 0)), some (vI a1), some (vI a2), some (vI a3), some (vI a4), none] [] s) (fun s => R1 xs nx 197 0 [some (vR 1 (some 0)), some (vI a1), some (vI a2), some (vI a3), some (vI a4), none, none] [] s) := by
  intro i hi a1 a2 a3 a4 s hJ
  rcases idx97 (xs := xs) (nx := nx) hJ a1 with ⟨h1, h2⟩ | ⟨k, hk, ea, hin, en, h1, h2⟩
  · refine nFail (hF := nd97 hJ rfl (h1 s rfl)) (E := 0) (e := 1) (v := 0) hJ (by simp only [d_99_0, h1 s rfl, bR, hE]) (fun z => ?_) rfl n10
    rcases wi79 (xs := xs) (nx := nx) a2 0 23 with ⟨-, h4, -⟩ | ⟨-, h4, -, -⟩
    · simp only [d_197_0, h2 (s.1, s.2.1, z) rfl, h4, bI, if_true, d_197_45, d_197_46, d_197_81, r172_1, n10, if_false]
    · rcases wi79 (xs := xs) (nx := nx) a3 (a2 + 1) 24 with ⟨-, g4, -⟩ | ⟨-, g4, -, -⟩
      · simp only [d_197_0, h2 (s.1, s.2.1, z) rfl, h4, g4, bI, if_true, d_197_45, d_197_46, d_197_81, r172_1, n10, if_false]
      · rcases wi79 (xs := xs) (nx := nx) a4 1 200 with ⟨-, f4, -⟩ | ⟨-, f4, -, -⟩
        · simp only [d_197_0, h2 (s.1, s.2.1, z) rfl, h4, g4, f4, bI, if_true, d_197_45, d_197_46, d_197_81, r172_1, n10, if_false]
        · simp only [d_197_0, h2 (s.1, s.2.1, z) rfl, h4, g4, f4, bI, if_true, d_197_46, d_197_81, r172_1, n10, if_false]
  · rcases wi79 (xs := xs) (nx := nx) a2 0 23 with ⟨h3, h4, h5⟩ | ⟨h3, h4, h5, h6⟩
    · exact nFail (hF := h5.elim Or.inl (fun z => Or.inr (Or.inl z))) (E := 1) (e := 2) (v := 0) hJ (by simp only [d_99_0, h1 s rfl, bR, ntg_self, h3, bI, if_true, d_99_45, d_99_46, c80_0, bV, hE]) (fun z => by simp only [d_197_0, h2 (s.1, s.2.1, z) rfl, h4, bI, if_true, d_197_45, d_197_46, d_197_81, r172_2, n10, if_false]) rfl n20
    · rcases wi79 (xs := xs) (nx := nx) a3 (a2 + 1) 24 with ⟨g3, g4, g5⟩ | ⟨g3, g4, g5, g6⟩
      · exact nFail (hF := Or.inr (Or.inr (g5.elim Or.inl (fun z => Or.inr (Or.inl z))))) (E := 1) (e := 2) (v := 0) hJ (by simp only [d_99_0, h1 s rfl, bR, ntg_self, h3, g3, n10, if_false, bI, if_true, d_99_45, d_99_46, c80_0, bV, hE]) (fun z => by simp only [d_197_0, h2 (s.1, s.2.1, z) rfl, h4, g4, bI, if_true, d_197_45, d_197_46, d_197_81, r172_2, n10, if_false]) rfl n20
      · rcases wi79 (xs := xs) (nx := nx) a4 1 200 with ⟨f3, f4, f5⟩ | ⟨f3, f4, f5, f6⟩
        · exact nFail (hF := Or.inr (Or.inr (Or.inr (Or.inr f5)))) (E := 1) (e := 2) (v := 0) hJ (by simp only [d_99_0, h1 s rfl, bR, ntg_self, h3, g3, f3, n10, if_false, bI, if_true, d_99_45, d_99_46, c80_0, bV, hE]) (fun z => by simp only [d_197_0, h2 (s.1, s.2.1, z) rfl, h4, g4, f4, bI, if_true, d_197_45, d_197_46, d_197_81, r172_2, n10, if_false]) rfl n20
        · have hP := hJ.2.2.2.2.2.1
          have hPk := hP k hk
          obtain ⟨e62, b62⟩ := hPk.2.2.2.2.2.2.2.2.2.2.2.2.2.2.2.1
          by_cases hf : s.2.1 62 k = 0
          · exact nFail (hF := ⟨k, hk, ea, hf, g5⟩) (E := 2) (e := 3) (v := 0) hJ (by simp only [d_99_0, h1 s rfl, bR, ntg_self, h3, g3, f3, n10, if_false, bI, d_99_46, c80_1, bV, nn_some, e62, hf, c84_0, hE]) (fun z => by simp only [d_197_0, h2 (s.1, s.2.1, z) rfl, h4, g4, f4, bI, if_true, d_197_46, hin, en, hf, d_197_81, r172_3, n10, if_false]) rfl n30
          · obtain ⟨ck, t, -, ht, et⟩ := nJ_ck hJ
            obtain ⟨x2, -, hx2, ex2⟩ := nIn_of (x := a2) (a := 0) (b := 23) (by decide) h5 h6
            obtain ⟨x4, hx4', hx4, ex4⟩ := nIn_of (x := a4) (a := 1) (b := 200) (by decide) f5 f6
            have h13 : nIn a3 1 24 := by
              rw [ex2, iN_add1] at g5
              obtain ⟨n, w1, w2, w3⟩ := nIn_of (x := a3) (a := x2 + 1) (b := 24) ⟨by omega, by omega⟩ g5 g6
              exact ⟨n, by omega, w2, w3⟩
            refine nDone (hP := ⟨k, hk, ea, h5, h6, g5, g6, f5, f6, hf, rfl, rfl, rfl, rfl, by simp (disch := decide) only [uM_ne, uM1_ne]⟩) (v := s.2.1 1 0 + a4) (c' := uI 26 k 14 (s.2.1 1 0 + a4) (uI 26 k 13 a3 (uI 26 k 12 a2 s.1))) (m' := uM 59 k (s.2.1 1 0 + a4) (uM 58 k a3 (uM 57 k a2 (uM 1 76 0 s.2.1)))) ?_ (by simp [d_99_0, h1 s rfl, bR, ntg_self, h3, g3, f3, n10, bI, d_99_46, c80_1, bV, nn_some, e62, c84_c _ _ hf, fI_at, ck]) (fun z => ?_) ?_
            · have hN := hJ.2.2.2.2.2.2.1
              unfold nJ at hJ ⊢
              simp (disch := decide) only [uM_ne, uM1_ne, fI_ne, fX_uI, fP_uI, fQ_uI, fL_uI, fN_uI]
              refine ⟨hJ.1, hJ.2.1, hJ.2.2.1, hJ.2.2.2.1, hJ.2.2.2.2.1, ?_, ?_, hJ.2.2.2.2.2.2.2⟩
              · intro x hx
                obtain ⟨y1, y2, y3, y4, y5, y6, y7, y8, y9, y10, y11, y12, y13, y14, y15, y16, y17, y18⟩ := hP x hx
                unfold nPar
                by_cases e : x = k
                · subst e
                  simp (disch := decide) only [fI_at, uM_at, uM_ne, true_and, if_true, show ¬ (9 : Nat) = 14 by decide, show ¬ (9 : Nat) = 13 by decide, show ¬ (9 : Nat) = 12 by decide, show ¬ (2 : Nat) = 14 by decide, show ¬ (2 : Nat) = 13 by decide, show ¬ (2 : Nat) = 12 by decide, show ¬ (3 : Nat) = 14 by decide, show ¬ (3 : Nat) = 13 by decide, show ¬ (3 : Nat) = 12 by decide, show ¬ (12 : Nat) = 14 by decide, show ¬ (12 : Nat) = 13 by decide, show ¬ (13 : Nat) = 14 by decide, show ¬ (4 : Nat) = 14 by decide, show ¬ (4 : Nat) = 13 by decide, show ¬ (4 : Nat) = 12 by decide, show ¬ (17 : Nat) = 14 by decide, show ¬ (17 : Nat) = 13 by decide, show ¬ (17 : Nat) = 12 by decide, show ¬ (16 : Nat) = 14 by decide, show ¬ (16 : Nat) = 13 by decide, show ¬ (16 : Nat) = 12 by decide, show ¬ (15 : Nat) = 14 by decide, show ¬ (15 : Nat) = 13 by decide, show ¬ (15 : Nat) = 12 by decide, if_false]
                  refine ⟨y1, y2, y3, y4, y5, y6, y7, y8, y9, y10, ⟨x2, Nat.zero_le _, hx2, ex2⟩, h13, ⟨t + x4, Nat.zero_le _, by omega, ?_⟩, y14, y15, y16, y17, y18⟩
                  rw [et, ex4]
                  exact i32_add
                · simp (disch := decide) only [fI_at, uM_at, uM_ne, e, false_and, if_false]
                  exact ⟨y1, y2, y3, y4, y5, y6, y7, y8, y9, y10, y11, y12, y13, y14, y15, y16, y17, y18⟩
              · intro x hx hx4
                have := hN x hx hx4
                simp (disch := decide) only [uM_at, uM_ne, show ¬ x = k by omega, if_false]
                exact this
            · simp (disch := decide) only [d_197_0, h2 (uI 26 k 14 (s.2.1 1 0 + a4) (uI 26 k 13 a3 (uI 26 k 12 a2 s.1)), s.2.1, z) rfl, h4, g4, f4, bI, if_true, d_197_46, hin, en, hf, d_197_81, r172_0, n10, if_false, uM_at, uM1_ne, show ¬ (0 : Nat) = 76 by decide]
            · simp (disch := decide) only [uM_ne, uM_self]
theorem nFailB {P : nC → nM → kP → nC → nM → Int32 → Prop} {F : nC → nM → Nat → Prop} {i : Nat} {hs : List (Nat × Int32)} {c m : nS → Option nOut} {s : nS} {E : Nat} {e : Int32} (hJ : nJ κ i s.1 s.2.1) (hc : c s = some (.inr E, (s.1, s.2.1, s.2.2.1 + 1, s.2.2.2))) (hm : ∀ z, m (s.1, s.2.1, z) = some (.inl (some (vI 0)), (s.1, uM 1 76 e s.2.1, z))) (he : nHl hs E = some e) (h0 : e ≠ 0) (hF : F s.1 s.2.1 E := by trivial) (hi : i % 100000 < 99999 := by omega) :
    ∃ (κ' : kP) (c' : nC) (m' : nM) (v : Int32), nJ κ' (i + 1) c' m' ∧ (v = 0 ∨ v = 1) ∧ (∀ z, m (c', s.2.1, z) = some (.inl (some (vI v)), (c', m', z))) ∧
  ((c s = some (.inl (some (vI v)), (c', s.2)) ∧ m' 1 76 = 0 ∧ P s.1 s.2.1 κ' c' m' v) ∨ ∃ E, c s = some (.inr E, (c', s.2.1, s.2.2.1 + 1, s.2.2.2)) ∧ nHl hs E = some (m' 1 76) ∧ m' 1 76 ≠ 0 ∧ c' = s.1 ∧ κ' = κ ∧ F s.1 s.2.1 E) :=
  ⟨κ, s.1, uM 1 76 e s.2.1, 0, nJ_76 (nJ_up hJ), Or.inl rfl, hm, Or.inr ⟨E, hc, by rw [uM_self]; exact he, by rw [uM_self]; exact h0, rfl, rfl, hF⟩⟩
/-- doubt -/
abbrev zP11 (κ : kP) (a1 a2 : Int32) (c : nC) (m : nM) (κ' : kP) (c' : nC) (m' : nM) (v : Int32) : Prop := ∃ k x, k < fN c 26 ∧ x < fN c 24 ∧ a1 = iN k ∧ a2 = iN x ∧ x ≠ fX c 26 k 10 ∧ κ' = κ ∧ (m 60 k = -1 → v = 1) ∧ m' 1 0 = m 1 0
abbrev zF11 (a1 a2 : Int32) (c : nC) (m : nM) (E : Nat) : Prop := f3 (¬ (∃ k, k < fN c 26 ∧ a1 = iN k) ∨ ¬ (∃ k, k < fN c 24 ∧ a2 = iN k)) (∃ k, k < fN c 26 ∧ a1 = iN k ∧ a2 = iN (fX c 26 k 10)) (∃ k, k < fN c 26 ∧ a1 = iN k ∧ m 62 k = 0 ∧ a2 ≠ iN (fX c 26 k 10)) E
theorem op11 : ∀ i, i < 512 → ∀ (a1 a2 : Int32), nDoesB κ (zP11 κ a1 a2) (zF11 a1 a2) i [(0, 1), (1, 2), (2, 3)] (fun s => R1 xs nx 100 0 [some (vR 0 (some 0)), some (vI a1), some (vI a2), none, none, none] [] s) (fun s => R1 xs nx 198 0 [some (vR 1 (some 0)), some (vI a1), some (vI a2), none, none, none] [] s) := by
  intro i hi a1 a2 s hJ
  rcases idx97 (xs := xs) (nx := nx) hJ a1 with ⟨h1, h2⟩ | ⟨k, hk, ea, hin, en, h1, h2⟩
  · exact nFailB (hF := Or.inl (nd97 hJ rfl (h1 s rfl))) (E := 0) (e := 1) hJ (by simp only [d_100_0, h1 s rfl, bR, hE]) (fun z => by simp only [d_198_0, h2 (s.1, s.2.1, z) rfl, bI, if_true, d_198_20, d_198_21, d_198_40, d_198_41, d_198_75, r172_1, n10, if_false]) rfl n10
  · rcases idx90 (xs := xs) (nx := nx) hJ a2 with ⟨g1, g2⟩ | ⟨x, hx, ex, hinx, enx, g1, g2⟩
    · exact nFailB (hF := Or.inr (nd90 hJ rfl (g1 s rfl))) (E := 0) (e := 1) hJ (by simp only [d_100_0, h1 s rfl, bR, ntg_self, g1 s rfl, hE]) (fun z => by simp only [d_198_0, h2 (s.1, s.2.1, z) rfl, g2 (s.1, s.2.1, z) rfl, bI, if_true, d_198_20, d_198_21, d_198_40, d_198_41, d_198_75, r172_1, n10, if_false]) rfl n10
    · have hP := hJ.2.2.2.2.2.1
      have hPk := hP k hk
      obtain ⟨e62, b62⟩ := hPk.2.2.2.2.2.2.2.2.2.2.2.2.2.2.2.1
      obtain ⟨q1, q2⟩ := hPk.2.2.2.1
      have hA := hJ.1.2.1.1
      by_cases hr : x = fX s.1 26 k 10
      · have e1 : s.2.1 52 k = a2 := by rw [q2, ex, hr]
        exact nFailB (hF := ⟨k, hk, ea, by rw [← hr]; exact ex⟩) (E := 1) (e := 2) hJ (by simp only [d_100_0, h1 s rfl, bR, ntg_self, g1 s rfl, nn_some, hr, if_true, d_100_27, c80_0, bV, hE]) (fun z => by simp only [d_198_0, h2 (s.1, s.2.1, z) rfl, g2 (s.1, s.2.1, z) rfl, bI, if_true, d_198_21, hin, en, e1, d_198_40, d_198_41, d_198_75, r172_2, n10, if_false]) rfl n20
      · have e1 : ¬ s.2.1 52 k = a2 := by rw [q2, ex]; exact fun w => hr ((iN_inj (by omega) (by omega)).mp w).symm
        have e2 : ¬ some x = some (fX s.1 26 k 10) := fun w => hr (Option.some.inj w)
        by_cases hf : s.2.1 62 k = 0
        · exact nFailB (hF := ⟨k, hk, ea, hf, fun w => hr ((iN_inj (by omega) (by omega)).mp (ex.symm.trans w))⟩) (E := 2) (e := 3) hJ (by simp only [d_100_0, h1 s rfl, bR, ntg_self, g1 s rfl, nn_some, e2, if_false, d_100_27, c80_1, bV, e62, hf, c84_0, hE]) (fun z => by simp only [d_198_0, h2 (s.1, s.2.1, z) rfl, g2 (s.1, s.2.1, z) rfl, bI, if_true, d_198_21, hin, en, e1, hf, d_198_41, d_198_75, r172_3, n10, if_false]) rfl n30
        · have h15 := hPk.2.2.2.2.2.2.2.2.2.2.2.2.2.2.1
          have key : nJ κ i (uP 26 k 11 (some x) s.1) (uM 60 k a2 (uM 1 76 0 s.2.1)) := by
            unfold nJ at hJ ⊢
            simp (disch := decide) only [uM_ne, uM1_ne, fP_ne, fX_uP, fI_uP, fQ_uP, fL_uP, fN_uP]
            refine ⟨hJ.1, hJ.2.1, hJ.2.2.1, hJ.2.2.2.1, hJ.2.2.2.2.1, ?_, hJ.2.2.2.2.2.2.1, hJ.2.2.2.2.2.2.2.1, ⟨hJ.2.2.2.2.2.2.2.2.1.1, fun w hw => ?_⟩, hJ.2.2.2.2.2.2.2.2.2⟩
            rotate_left
            · have ht := hJ.2.2.2.2.2.2.2.2.1.2 w hw
              by_cases e : w = k
              · subst e
                have hfr := ((hJ.2.2.2.2.2.2.2.2.2.2.1 w hw).2.2.2.2.2.1 (b62.elim (fun z => absurd z hf) id)).2.2
                refine ⟨fun z => ?_, fun z => ?_⟩
                · rcases hfr with y | y
                  · exact absurd (y.symm.trans z) (by decide)
                  · exact absurd (y.symm.trans z) (by decide)
                · rcases hfr with y | y
                  · exact absurd (y.symm.trans z) (by decide)
                  · exact absurd (y.symm.trans z) (by decide)
              · unfold nTgt at ht ⊢
                rw [uM_at, if_neg e, uM_ne (by decide)]
                exact ht
            intro w hw
            obtain ⟨y1, y2, y3, y4, y5, y6, y7, y8, y9, y10, y11, y12, y13, y14, y15, y16, y17, y18⟩ := hP w hw
            unfold nPar
            by_cases e : w = k
            · subst e
              refine ⟨?_, y2, y3, y4, y5, y6, y7, y8, y9, y10, y11, y12, y13, y14, ?_, y16, y17, y18⟩
              · simpa [fP_at] using y1
              · simp only [fP_at, uM_at, and_self, if_true]
                exact ⟨hx, ex⟩
            · simp (disch := decide) only [fP_at, uM_at, uM_ne, e, false_and, if_false]
              exact ⟨y1, y2, y3, y4, y5, y6, y7, y8, y9, y10, y11, y12, y13, y14, y15, y16, y17, y18⟩
          cases hq : fP s.1 26 k 11 with
          | none =>
            rw [hq] at h15
            refine ⟨κ, _, _, 1, nJ_up key, Or.inr rfl, fun z => ?_, Or.inl ⟨?_, ?_, ⟨k, x, hk, hx, ea, ex, hr, rfl, fun _ => rfl, by simp (disch := decide) only [uM_ne, uM1_ne]⟩⟩⟩
            · simp (disch := decide) only [d_198_0, h2 (uP 26 k 11 (some x) s.1, s.2.1, z) rfl, g2 (uP 26 k 11 (some x) s.1, s.2.1, z) rfl, bI, if_true, d_198_21, hin, en, e1, hf, d_198_41, d_198_75, r172_0, n10, if_false, uM_ne, h15, d_198_98]
            · simp only [d_100_0, h1 s rfl, bR, ntg_self, g1 s rfl, nn_some, e2, if_false, d_100_27, c80_1, bV, e62, c84_c _ _ hf, hq, nz]
            · simp (disch := decide) only [uM_ne, uM_self]
          | some y =>
            rw [hq] at h15
            have e9 : ¬ s.2.1 60 k = -1 := by
              rw [h15.2]
              intro w
              have := congrArg Int32.toInt w
              rw [Int32.toInt_ofNat_of_lt (by omega), show (-1 : Int32).toInt = -1 from rfl] at this
              omega
            refine ⟨κ, _, _, 0, nJ_up key, Or.inl rfl, fun z => ?_, Or.inl ⟨?_, ?_, ⟨k, x, hk, hx, ea, ex, hr, rfl, fun z => absurd z e9, by simp (disch := decide) only [uM_ne, uM1_ne]⟩⟩⟩
            · simp (disch := decide) only [d_198_0, h2 (uP 26 k 11 (some x) s.1, s.2.1, z) rfl, g2 (uP 26 k 11 (some x) s.1, s.2.1, z) rfl, bI, if_true, d_198_21, hin, en, e1, hf, d_198_41, d_198_75, r172_0, n10, if_false, uM_ne, e9, d_198_98]
            · simp only [d_100_0, h1 s rfl, bR, ntg_self, g1 s rfl, nn_some, e2, if_false, d_100_27, c80_1, bV, e62, c84_c _ _ hf, hq, nz]
            · simp (disch := decide) only [uM_ne, uM_self]
end OPG
end KAP
