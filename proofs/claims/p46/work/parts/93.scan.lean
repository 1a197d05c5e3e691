/-! ===== scan ===== -/
section KAP
variable {κ : kP}
section OPL
variable {xs : Nat → Int32} {nx : Nat}
theorem op37 : ∀ i, i < 512 → ∀ (a1 a2 : Int32), nDoes κ pT pF i [(0, 1), (1, 2)] (fun s => R1 xs nx 158 0 [some (vR 0 (some 0)), some (vI a1), some (vI a2), none] [] s) (fun s => R1 xs nx 252 0 [some (vR 1 (some 0)), some (vI a1), some (vI a2)] [] s) := by
  intro i hi a1 a2 s hJ
  obtain ⟨-, b2, b3⟩ := hJ.1.2.2.2.2.2
  rcases wi79 (xs := xs) (nx := nx) a1 0 (iN (fL s.1 19 0).length - 1) with ⟨h3, h4, -⟩ | ⟨h3, h4, h5, h6⟩
  · exact nFail (E := 0) (e := 1) (v := 0) hJ (by simp only [d_158_0, h3, bI, d_157_0, if_true, bV, hE]) (fun z => by simp only [d_252_0, b3, h4, bI, if_true, d_252_33, r172_1, n10, if_false]) rfl n10
  · rcases nIdx a1 (n := (fL s.1 19 0).length) (by omega) with ⟨-, g | ⟨-, g⟩⟩ | ⟨-, -, -, k, hk, ea⟩
    · exact absurd g h5
    · exact absurd g h6
    · have en : a1.toNatClampNeg = k := by rw [ea]; exact i32_nat (by omega)
      have hin : mIn a1 400 = true := mIn_iff.mpr ⟨h5, by rw [en]; omega⟩
      rcases wi79 (xs := xs) (nx := nx) a2 0 3 with ⟨g3, g4, -⟩ | ⟨g3, g4, g5, g6⟩
      · exact nFail (E := 1) (e := 2) (v := 0) hJ (by simp only [d_158_0, h3, bI, d_157_0, n10, if_false, bV, g3, c80_0, hE]) (fun z => by simp only [d_252_0, b3, h4, bI, n10, if_false, g4, if_true, d_252_33, r172_2]) rfl n20
      · have hb : (fL s.1 19 0)[k]? = some ((fL s.1 19 0)[k]) := List.getElem?_eq_getElem hk
        obtain ⟨-, w1, -, ⟨-, w2⟩, ⟨w3, -⟩, w4, -⟩ := hJ.2.2.2.2.2.2.2.2.2.2.2.2.2.1.1 k _ hb
        by_cases e0 : a2 = 0
        · subst e0
          exact nAsk (v := s.2.1 91 k) hJ (by simp only [d_158_0, h3, bI, d_157_0, n10, if_false, bV, g3, c80_1, h5, en, hb, nn_some, if_true, w1]) (fun z => by simp (disch := decide) only [d_252_0, b3, h4, bI, n10, if_false, g4, d_252_33, r172_0, if_true, hin, en, uM_ne])
        · by_cases e1 : a2 = 1
          · subst e1
            exact nAsk (v := s.2.1 92 k) hJ (by simp only [d_158_0, h3, bI, d_157_0, n10, if_false, bV, g3, c80_1, h5, en, hb, nn_some, if_true, w2]) (fun z => by simp (disch := decide) only [d_252_0, b3, h4, bI, n10, if_false, g4, d_252_33, r172_0, if_true, hin, en, uM_ne])
          · by_cases e2 : a2 = 2
            · subst e2
              exact nAsk (v := s.2.1 93 k) hJ (by simp only [d_158_0, h3, bI, d_157_0, n10, if_false, bV, g3, c80_1, h5, en, hb, nn_some, e0, e1, if_true, w3]) (fun z => by simp (disch := decide) only [d_252_0, b3, h4, bI, n10, if_false, g4, d_252_33, r172_0, e0, e1, if_true, hin, en, uM_ne])
            · exact nAsk (v := s.2.1 94 k) hJ (by simp only [d_158_0, h3, bI, d_157_0, n10, if_false, bV, g3, c80_1, h5, en, hb, nn_some, e0, e1, e2, w4]) (fun z => by simp (disch := decide) only [d_252_0, b3, h4, bI, n10, if_false, g4, d_252_33, r172_0, e0, e1, e2, if_true, hin, en, uM_ne])
end OPL
end KAP
