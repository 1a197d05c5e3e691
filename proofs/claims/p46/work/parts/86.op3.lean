/-! ===== address, van ===== -/
section KAP
variable {κ : kP}
section OPD
variable {xs : Nat → Int32} {nx : Nat}
theorem gPar_A {f g : Nat → Nat → Int32} {X : Nat → Nat → Nat} {Q : Nat → Nat → Option Nat} {n A A' : Nat} {ck : Int32} {a b c d e h i j k l o p q r s t u v : Nat → Int32} (hA : A ≤ A') (h1 : gPar f g X Q n A ck a b c d e h i j k l o p q r s t u v) : gPar f g X Q n A' ck a b c d e h i j k l o p q r s t u v := by
  intro x hx
  obtain ⟨y1, y2, y3, y4, y5, y6, y7, y8, y9, y10, y11, y12, y13, y14, y15, y16⟩ := h1 x hx
  refine ⟨y1, y2, ⟨by omega, y3.2⟩, ⟨by omega, y4.2⟩, y5, y6, y7, y8, y9, y10, y11, y12, y13, y14, ?_, y16⟩
  cases hq : Q x 11 with
  | none => rw [hq] at y15; exact y15
  | some z => rw [hq] at y15; exact ⟨Nat.lt_of_lt_of_le y15.1 hA, y15.2⟩
theorem iN_add1 {n : Nat} : iN n + 1 = iN (n + 1) := i32_add (b := 1)
theorem iN_sub1 {n : Nat} (h : n < 1000) : iN (n + 1) - 1 = iN n := i32_sub (b := 1) (by omega) (by omega)
theorem len_rng {n : Nat} : (List.range n ++ [n]).length = n + 1 := by simp
theorem c84_0 (s : nS) : R1 xs nx 84 0 [some (vI 0)] [] s = some (.inr 2, (s.1, s.2.1, s.2.2.1 + 1, s.2.2.2)) := by rw [d_84_0, if_pos rfl]
theorem c84_1 (s : nS) : R1 xs nx 84 0 [some (vI 1)] [] s = some (.inl none, s) := by rw [d_84_0, if_neg n10]
/-- address -/
abbrev zP6 (κ : kP) (a1 a2 : Int32) (c : nC) (m : nM) (κ' : kP) (c' : nC) (m' : nM) (v : Int32) : Prop := ∃ d, d < 5 ∧ a1 = iN d ∧ ¬ a2 < 0 ∧ ¬ 60 < a2 ∧ fN c 24 < 20 ∧ v = iN (fN c 24) ∧ κ' = kNet κ.1 κ.2.2.2.2.2.2.2.2 c' ∧ c' = uL 15 0 (List.range (fN c 24) ++ [fN c 24]) (uI 24 (fN c 24) 3 0 (uI 24 (fN c 24) 2 0 (uI 24 (fN c 24) 1 a2 (uX 24 (fN c 24) 0 d (uN 24 (fN c 24 + 1) c))))) ∧ m' 1 0 = m 1 0
abbrev zF6 (a1 a2 : Int32) (c : nC) (m : nM) (E : Nat) : Prop := f3 (¬ (∃ d, d < 5 ∧ a1 = iN d)) (a2 < 0 ∨ 60 < a2) (fN c 24 = 20 ∧ ¬ 60 < a2) E
theorem op6 : ∀ i, i < 512 → ∀ (a1 a2 : Int32), nDoes κ (zP6 κ a1 a2) (zF6 a1 a2) i [(0, 1), (1, 2), (2, 3)] (fun s => R1 xs nx 89 0 [some (vR 0 (some 0)), some (vI a1), some (vI a2), none] [] s) (fun s => R1 xs nx 187 0 [some (vR 1 (some 0)), some (vI a1), some (vI a2)] [] s) := by
  intro i hi a1 a2 s hJ
  rcases dep78 (xs := xs) (nx := nx) a1 with ⟨h1, h2⟩ | ⟨d, hd, rfl, h1, h2⟩
  · exact nFail (hF := nd78 (h1 s)) (E := 0) (e := 1) (v := 0) hJ (by simp only [d_89_0, h1, bR, hE]) (fun z => by simp only [d_187_0, h2, bI, if_true, d_187_40, r172_1, n10, if_false]) rfl n10
  · rcases wi79 (xs := xs) (nx := nx) a2 0 60 with ⟨h3, h4, h5⟩ | ⟨h3, h4, h5, h6⟩
    · exact nFail (hF := h5) (E := 1) (e := 2) (v := 0) hJ (by simp only [d_89_0, h1, bR, ntg_self, h3, bI, c80_0, bV, hE]) (fun z => by simp only [d_187_0, h2, n10, bI, if_false, h4, if_true, d_187_40, r172_2]) rfl n20
    · obtain ⟨q1, q2, q3⟩ := hJ.1.2.1
      by_cases hA : fN s.1 24 = 20
      · have e1 : ¬ iN (fN s.1 24) < (20 : Int32) := by rw [hA]; decide
        have e2 : s.2.1 1 19 = 20 := by rw [q2, hA]; rfl
        exact nFail (hF := ⟨hA, h6⟩) (E := 2) (e := 3) (v := 0) hJ (by simp only [d_89_0, h1, bR, ntg_self, h3, bI, c80_1, bV, q3, List.length_range, e1, if_false, d_89_33, c84_0, hE]) (fun z => by simp only [d_187_0, h2, n10, bI, if_false, h4, e2, if_true, d_187_40, r172_3]) rfl n30
      · have e1 : iN (fN s.1 24) < (20 : Int32) := (iN_lt (b := 20) (by omega) (by omega)).mpr (by omega)
        have e2 : ¬ iN (fN s.1 24) = 20 := fun z => hA ((iN_inj (b := 20) (by omega) (by omega)).mp z)
        have hin : mIn (iN (fN s.1 24)) 20 = true := mIn_iff.mpr ⟨i32_pos (by omega), by rw [i32_nat (by omega)]; omega⟩
        have hnat : (iN (fN s.1 24)).toNatClampNeg = fN s.1 24 := i32_nat (by omega)
        refine nDoneK (hP := ⟨d, hd, rfl, h5, h6, by omega, rfl, rfl, rfl, by simp (disch := decide) only [uM_ne, uM1_ne]⟩) (kNet κ.1 κ.2.2.2.2.2.2.2.2 (uL 15 0 (List.range (fN s.1 24) ++ [fN s.1 24]) (uI 24 (fN s.1 24) 3 0 (uI 24 (fN s.1 24) 2 0 (uI 24 (fN s.1 24) 1 a2 (uX 24 (fN s.1 24) 0 d (uN 24 (fN s.1 24 + 1) s.1))))))) (v := iN (fN s.1 24)) (c' := uL 15 0 (List.range (fN s.1 24) ++ [fN s.1 24]) (uI 24 (fN s.1 24) 3 0 (uI 24 (fN s.1 24) 2 0 (uI 24 (fN s.1 24) 1 a2 (uX 24 (fN s.1 24) 0 d (uN 24 (fN s.1 24 + 1) s.1))))))
          (m' := uM 1 19 (iN (fN s.1 24 + 1)) (uM 46 (fN s.1 24) a2 (uM 45 (fN s.1 24) (iN d) (uM 1 76 0 s.2.1)))) ?_ (by simp only [d_89_0, h1, bR, ntg_self, h3, bI, c80_1, bV, q3, List.length_range, e1, if_true, d_89_33, c84_1, nn_some, len_rng, iN_sub1 (show fN s.1 24 < 1000 by omega), show fN s.1 24 < 500 by omega]) (fun z => ?_) ?_
        · have hJ0 := hJ
          unfold nJ at hJ ⊢
          simp (disch := decide) only [uM_ne, uM1_ne, fI_ne, fX_ne, fL_ne, fL_at, fN_ne, fN_at, fX_uI, fX_uL, fX_uN, fP_uI, fP_uX, fP_uL, fP_uN, fQ_uI, fQ_uX, fQ_uL, fQ_uN, fL_uI, fL_uX, fL_uN, fN_uI, fN_uX, fN_uL, fI_uX, fI_uL, fI_uN, if_true]
          refine ⟨?_, hJ.2.1, hJ.2.2.1, hJ.2.2.2.1, ?_, gPar_A (Nat.le_succ _) hJ.2.2.2.2.2.1, hJ.2.2.2.2.2.2.1, hJ.2.2.2.2.2.2.2.1, ⟨hJ.2.2.2.2.2.2.2.2.1.1, ?_⟩, gKap_s hJ.2.2.2.2.2.2.2.2.2 ?_⟩
          · have hc := hJ.1
            unfold gCnt at hc ⊢
            simp (disch := decide) only [uM_ne, uM1_ne, uM_at, fN_ne, fN_at, fN_uI, fN_uX, fN_uL, if_true, if_false]
            exact ⟨hc.1, ⟨by omega, trivial, List.range_succ.symm⟩, hc.2.2⟩
          · have hB := hJ.2.2.2.2.1
            refine ⟨fun a ha => ?_, fun a ha hb => ?_⟩
            · by_cases e : a = fN s.1 24
              · have hz := hB.2 a (by omega) (by omega)
                simp (disch := decide) only [fI_at, fX_at, uM_at, uM_ne, e, fX_uI, fX_uL, fX_uN, fI_uX, fI_uL, fI_uN, true_and, if_true, if_false, show ¬ (1 : Nat) = 3 by decide, show ¬ (1 : Nat) = 2 by decide, show ¬ (2 : Nat) = 3 by decide]
                rw [← e, hz.1, hz.2]
                exact ⟨⟨hd, trivial⟩, nIn_of (by decide) h5 h6, rfl, rfl, ⟨0, by decide, by decide, rfl⟩, ⟨0, by decide, by decide, rfl⟩⟩
              · have ha9 := hB.1 a (by omega)
                simp (disch := decide) only [fI_at, fX_at, uM_at, uM_ne, e, fX_uI, fX_uL, fX_uN, fI_uX, fI_uL, fI_uN, false_and, if_false]
                exact ha9
            · exact hB.2 a (by omega) hb
          · intro k hk
            have ht := hJ.2.2.2.2.2.2.2.2.1.2 k hk
            obtain ⟨-, -, ⟨x1, x2⟩, ⟨x3, x4⟩, -⟩ := hJ.2.2.2.2.2.1 k hk
            have hne : (if s.2.1 63 k = 0 then s.2.1 52 k else s.2.1 51 k).toNatClampNeg ≠ fN s.1 24 := by
              split
              · rw [x4, i32_nat (by omega)]; omega
              · rw [x2, i32_nat (by omega)]; omega
            unfold nTgt at ht ⊢
            rw [uM_at, if_neg hne, uM_ne (by decide)]
            exact ht
          · exact fun z => ⟨⟨rfl, rfl, rfl, rfl, rfl⟩, rfl, fun _ => rfl, rfl, rfl, fun _ => rfl, rfl, z.2.2.2.2.2.2.2⟩
        · simp (disch := decide) only [d_187_0, h2, n10, bI, if_false, h4, e2, if_true, d_187_40, r172_0, uM1_ne, q2, hin, hnat, iN_add1, iN_sub1 (show fN s.1 24 < 1000 by omega)]
        · simp (disch := decide) only [uM_ne, uM1_ne, uM_self]
end OPD
end KAP
