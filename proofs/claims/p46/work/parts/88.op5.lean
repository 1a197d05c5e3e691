/-! ===== worth ===== -/
section KAP
variable {κ : kP}
section OPF
variable {xs : Nat → Int32} {nx : Nat}
theorem nBo_n {x : Int32} (h : nBo x) (h0 : ¬ x = 0) : x = 1 := h.resolve_left h0
theorem c84_c (x : Int32) (s : nS) (h : ¬ x = 0) : R1 xs nx 84 0 [some (vI x)] [] s = some (.inl none, s) := by rw [d_84_0, if_neg h]
/-- worth -/
abbrev zP9 (κ : kP) (a1 a2 a3 : Int32) (c : nC) (m : nM) (κ' : kP) (c' : nC) (m' : nM) (v : Int32) : Prop := ∃ k, k < fN c 26 ∧ a1 = iN k ∧ ¬ a2 < 0 ∧ ¬ 1000 < a2 ∧ ¬ a3 < 0 ∧ ¬ 500 < a3 ∧ ¬ m 62 k = 0 ∧ κ' = κ ∧ v = (a2 + 9) / 10 ∧ m' = uM 56 k a3 (uM 55 k a2 (uM 1 76 0 m)) ∧ fX c' = fX c ∧ m' 1 0 = m 1 0
abbrev zF9 (a1 a2 a3 : Int32) (c : nC) (m : nM) (E : Nat) : Prop := f3 (¬ (∃ k, k < fN c 26 ∧ a1 = iN k)) (a2 < 0 ∨ 1000 < a2 ∨ a3 < 0 ∨ 500 < a3) (∃ k, k < fN c 26 ∧ a1 = iN k ∧ m 62 k = 0) E
theorem op9 : ∀ i, i < 512 → ∀ (a1 a2 a3 : Int32), nDoes κ (zP9 κ a1 a2 a3) (zF9 a1 a2 a3) i [(0, 1), (1, 2), (2, 3)] (fun s => R1 xs nx 98 0 [some (vR 0 (some 0)), some (vI a1), some (vI a2), some (vI a3), none] [] s) (fun s => R1 xs nx 196 0 [some (vR 1 (some 0)), some (vI a1), some (vI a2), some (vI a3), none, none] [] s) := by
  intro i hi a1 a2 a3 s hJ
  rcases idx97 (xs := xs) (nx := nx) hJ a1 with ⟨h1, h2⟩ | ⟨k, hk, ea, hin, en, h1, h2⟩
  · refine nFail (hF := nd97 hJ rfl (h1 s rfl)) (E := 0) (e := 1) (v := 0) hJ (by simp only [d_98_0, h1 s rfl, bR, hE]) (fun z => ?_) rfl n10
    rcases wi79 (xs := xs) (nx := nx) a2 0 1000 with ⟨-, h4, -⟩ | ⟨-, h4, -, -⟩
    · simp only [d_196_0, h2 (s.1, s.2.1, z) rfl, h4, bI, if_true, d_196_33, d_196_34, d_196_69, r172_1, n10, if_false]
    · rcases wi79 (xs := xs) (nx := nx) a3 0 500 with ⟨-, g4, -⟩ | ⟨-, g4, -, -⟩
      · simp only [d_196_0, h2 (s.1, s.2.1, z) rfl, h4, g4, bI, if_true, d_196_33, d_196_34, d_196_69, r172_1, n10, if_false]
      · simp only [d_196_0, h2 (s.1, s.2.1, z) rfl, h4, g4, bI, if_true, d_196_34, d_196_69, r172_1, n10, if_false]
  · rcases wi79 (xs := xs) (nx := nx) a2 0 1000 with ⟨h3, h4, h5⟩ | ⟨h3, h4, h5, h6⟩
    · exact nFail (hF := h5.elim Or.inl (fun z => Or.inr (Or.inl z))) (E := 1) (e := 2) (v := 0) hJ (by simp only [d_98_0, h1 s rfl, bR, ntg_self, h3, bI, if_true, d_98_33, d_98_34, c80_0, bV, hE]) (fun z => by simp only [d_196_0, h2 (s.1, s.2.1, z) rfl, h4, bI, if_true, d_196_33, d_196_34, d_196_69, r172_2, n10, if_false]) rfl n20
    · rcases wi79 (xs := xs) (nx := nx) a3 0 500 with ⟨g3, g4, g5⟩ | ⟨g3, g4, g5, g6⟩
      · exact nFail (hF := Or.inr (Or.inr g5)) (E := 1) (e := 2) (v := 0) hJ (by simp only [d_98_0, h1 s rfl, bR, ntg_self, h3, g3, n10, if_false, bI, if_true, d_98_33, d_98_34, c80_0, bV, hE]) (fun z => by simp only [d_196_0, h2 (s.1, s.2.1, z) rfl, h4, g4, bI, if_true, d_196_33, d_196_34, d_196_69, r172_2, n10, if_false]) rfl n20
      · have hP := hJ.2.2.2.2.2.1
        have hPk := hP k hk
        obtain ⟨e62, b62⟩ := hPk.2.2.2.2.2.2.2.2.2.2.2.2.2.2.2.1
        by_cases hf : s.2.1 62 k = 0
        · exact nFail (hF := ⟨k, hk, ea, hf⟩) (E := 2) (e := 3) (v := 0) hJ (by simp only [d_98_0, h1 s rfl, bR, ntg_self, h3, g3, n10, if_false, bI, d_98_34, c80_1, bV, nn_some, e62, hf, c84_0, hE]) (fun z => by simp only [d_196_0, h2 (s.1, s.2.1, z) rfl, h4, g4, bI, if_true, d_196_34, hin, en, hf, d_196_69, r172_3, n10, if_false]) rfl n30
        · have hf1 := nBo_n b62 hf
          obtain ⟨o1, o2, o3⟩ := (hJ.2.2.2.2.2.2.2.2.2.2.1 k hk).2.2.2.2.2.1 hf1
          refine nDone (hP := ⟨k, hk, ea, h5, h6, g5, g6, hf, rfl, rfl, rfl, rfl, by simp (disch := decide) only [uM_ne, uM1_ne]⟩) (v := (a2 + 9) / 10) (c' := uI 8 k 1 a3 (uI 8 k 0 a2 s.1)) (m' := uM 56 k a3 (uM 55 k a2 (uM 1 76 0 s.2.1))) ?_ (by simp [d_98_0, h1 s rfl, bR, ntg_self, h3, g3, n10, bI, d_98_34, c80_1, bV, nn_some, e62, c84_c _ _ hf, d_60_0, fI_at]) (fun z => ?_) ?_
          · have hV := hJ.2.2.2.2.2.2.2.2.2.2.2.1
            have hM := hJ.2.2.2.2.2.2.2.2.2.2.1
            have hN := hJ.2.2.2.2.2.2.1
            have hJ0 := hJ
            unfold nJ at hJ ⊢
            simp (disch := decide) only [uM_ne, uM1_ne, fI_ne, fX_uI, fP_uI, fQ_uI, fL_uI, fN_uI]
            refine ⟨hJ.1, hJ.2.1, hJ.2.2.1, hJ.2.2.2.1, hJ.2.2.2.2.1, ?_, ?_, hJ.2.2.2.2.2.2.2.1, hJ.2.2.2.2.2.2.2.2.1, hJ.2.2.2.2.2.2.2.2.2.1, ?_, ?_, hJ.2.2.2.2.2.2.2.2.2.2.2.2⟩
            · intro x hx
              obtain ⟨y1, y2, y3, y4, y5, y6, y7, y8, y9, y10, y11⟩ := hP x hx
              unfold nPar
              by_cases e : x = k
              · subst e
                refine ⟨y1, y2, y3, y4, y5, y6, ?_, ?_, ?_, ?_, y11⟩
                · simp [fI_at, uM_at, uM_ne]
                  exact nIn_of (by decide) h5 h6
                · simp [fI_at, uM_at]
                  exact nIn_of (by decide) g5 g6
                · simpa [fI_at] using y9
                · simpa [fI_at] using y10
              · simp (disch := decide) only [fI_at, uM_at, uM_ne, e, false_and, if_false]
                exact ⟨y1, y2, y3, y4, y5, y6, y7, y8, y9, y10, y11⟩
            · intro x hx hx4
              have := hN x hx hx4
              simp (disch := decide) only [uM_at, uM_ne, show ¬ x = k by omega, if_false]
              exact this
            · intro x hx
              obtain ⟨y1, y2, y3, y4, y5, y6, y7, y8, y9⟩ := hM x hx
              by_cases e : x = k
              · subst e
                refine ⟨?_, y2, ?_, y4, y5, y6, fun _ => o1, y8, fun _ _ => ?_⟩
                · simpa [fI_at] using y1
                · simpa [fI_at] using y3
                · rw [o2]
                  exact Or.inl o1
              · unfold nMon
                simp (disch := decide) only [fI_at, uM_at, uM_ne, e, false_and, if_false]
                exact ⟨y1, y2, y3, y4, y5, y6, y7, y8, y9⟩
            · obtain ⟨v1, v2, v3⟩ := hV
              refine ⟨fun v hv => ?_, v2, v3⟩
              obtain ⟨w1, w2, w3, w4, w5⟩ := v1 v hv
              refine ⟨w1, w2, w3, fun hp => ?_, w5⟩
              obtain ⟨r1, r2, r3, r4, r5, r6⟩ := w4 hp
              refine ⟨r1, r2, r3, r4, r5, fun j x hx => ?_⟩
              obtain ⟨p1, p2, p3, p4, p5⟩ := r6 j x hx
              refine ⟨p1, p2, p3, p4, ?_⟩
              rcases p5 with p5 | ⟨p5, p6, p7, p8⟩
              · exact Or.inl p5
              · have e : ¬ x = k := fun z => by
                  rw [z] at p5
                  rcases o3 with o3 | o3 <;> rw [o3] at p5 <;> exact absurd p5 (by decide)
                refine Or.inr ⟨p5, p6, p7, ?_⟩
                simp (disch := decide) only [uM_at, uM_ne, e, if_false]
                exact p8
          · simp (disch := decide) only [d_196_0, h2 (uI 8 k 1 a3 (uI 8 k 0 a2 s.1), s.2.1, z) rfl, h4, g4, bI, if_true, d_196_34, hin, en, hf, d_196_69, r172_0, n10, if_false, d_195_0]
          · simp (disch := decide) only [uM_ne, uM_self]
end OPF
end KAP
