/-! ===== van ===== -/
section KAP
variable {κ : kP}
section OPE
variable {xs : Nat → Int32} {nx : Nat}
theorem gSty_mono {h : Nat → Nat → Int32} {D : Nat → Nat → Option Nat} {q : Nat → Option (Nat × Nat)} {XL XK XL' XK' : Nat → Nat → Nat} {fl fl' : Nat → Nat → Int32} {n1 n2 n3 n4 a1 a3 a4 pp : Nat} {ck : Int32} {a b c d e f g i j : Nat → Int32}
    (h1 : n1 ≤ a1) (h3 : n3 ≤ a3) (h4 : n4 ≤ a4) (hX : ∀ l, l < n1 → XL' l 1 = XL l 1) (hK : ∀ l, l < n4 → XK' l 1 = XK l 1) (hf : ∀ l, l < n1 → fl' l 3 = fl l 3)
    (H : gSty h D q XL XK fl n1 n2 n3 n4 pp ck a b c d e f g i j) : gSty h D q XL' XK' fl' a1 n2 a3 a4 pp ck a b c d e f g i j := by
  intro k hk
  obtain ⟨y1, y2, y3, y4, y⟩ := H k hk
  refine ⟨y1, y2, y3, y4, ?_⟩
  rcases y with y | ⟨z, l, z1, z2, z3, z4⟩ | ⟨z, l, z1, z2, z3, z4, z5, z6, z7, z8, z9⟩ | y | ⟨z, l, z1, z2⟩ | ⟨z, l, z1, z2, z3, z4⟩ | y | y | y
  · exact Or.inl y
  · exact Or.inr (Or.inl ⟨z, l, Nat.lt_of_lt_of_le z1 h1, z2, by rw [hX l z1]; exact z3, z4⟩)
  · exact Or.inr (Or.inr (Or.inl ⟨z, l, Nat.lt_of_lt_of_le z1 h1, z2, z3, z4, z5, z6, z7, by rw [hf l z1]; exact z8, z9⟩))
  · exact Or.inr (Or.inr (Or.inr (Or.inl y)))
  · exact Or.inr (Or.inr (Or.inr (Or.inr (Or.inl ⟨z, l, Nat.lt_of_lt_of_le z1 h3, z2⟩))))
  · exact Or.inr (Or.inr (Or.inr (Or.inr (Or.inr (Or.inl ⟨z, l, Nat.lt_of_lt_of_le z1 h4, z2, by rw [hK l z1]; exact z3, z4⟩)))))
  · exact Or.inr (Or.inr (Or.inr (Or.inr (Or.inr (Or.inr (Or.inl y))))))
  · exact Or.inr (Or.inr (Or.inr (Or.inr (Or.inr (Or.inr (Or.inr (Or.inl y)))))))
  · exact Or.inr (Or.inr (Or.inr (Or.inr (Or.inr (Or.inr (Or.inr (Or.inr y)))))))
theorem gMon_mono {g : Nat → Nat → Int32} {D : Nat → Nat → Option Nat} {n nv nv' pp : Nat} {a b c d e : Nat → Int32} (hv : nv ≤ nv') (H : gMon g D n nv pp a b c d e) : gMon g D n nv' pp a b c d e := by
  intro k hk
  obtain ⟨y1, y2, y3, y4, y5, y6⟩ := H k hk
  refine ⟨y1, y2, y3, y4, ?_, y6⟩
  rcases y5 with y | ⟨v, h1, h2⟩ | y
  · exact Or.inl y
  · exact Or.inr (Or.inl ⟨v, Nat.lt_of_lt_of_le h1 hv, h2⟩)
  · exact Or.inr (Or.inr y)
/-- where a parcel is, by kind: its number is of one that is -/
theorem sty4 {i : Nat} {c : nC} {m : nM} (hJ : nJ κ i c m) {k : Nat} (hk : k < fN c 26) (h : m 66 k = 4) : ∃ v, v < fN c 27 ∧ m 67 k = iN v := by
  obtain ⟨y1, y2, y3, y4, y⟩ := hJ.2.2.2.2.2.2.2.1 k hk
  rw [h] at y
  rcases y with ⟨z, -⟩ | ⟨z, -⟩ | ⟨z, -⟩ | ⟨z, -⟩ | ⟨z, l, z1, z2, -⟩ | ⟨z, -⟩ | ⟨z, -⟩ | ⟨z, -⟩ | ⟨z, -⟩
  · exact absurd z (by decide)
  · exact absurd z (by decide)
  · exact absurd z (by decide)
  · exact absurd z (by decide)
  · exact ⟨l, z1, z2⟩
  · exact absurd z (by decide)
  · exact absurd z (by decide)
  · exact absurd z (by decide)
  · exact absurd z (by decide)
/-- van -/
abbrev zP12 (κ : kP) (a1 a2 a3 : Int32) (c : nC) (m : nM) (κ' : kP) (c' : nC) (m' : nM) (v : Int32) : Prop := ∃ d, d < 5 ∧ a1 = iN d ∧ ¬ a2 < 1 ∧ ¬ 30 < a2 ∧ ¬ a3 < 0 ∧ ¬ 23 < a3 ∧ fN c 27 < 6 ∧ v = iN (fN c 27) ∧ κ' = kNet κ.1 κ.2.2.2.2.2.2.2.2 c' ∧ c' = uL 17 0 (List.range (fN c 27) ++ [fN c 27]) (uI 27 (fN c 27) 6 0 (uI 27 (fN c 27) 5 0 (uI 27 (fN c 27) 3 a3 (uI 27 (fN c 27) 2 a2 (uX 27 (fN c 27) 1 d (uL 11 (fN c 27) [] (uN 27 (fN c 27 + 1) c))))))) ∧ m' 1 0 = m 1 0
abbrev zF12 (a1 a2 a3 : Int32) (c : nC) (m : nM) (E : Nat) : Prop := f3 (¬ (∃ d, d < 5 ∧ a1 = iN d)) (a2 < 1 ∨ 30 < a2 ∨ a3 < 0 ∨ 23 < a3) (fN c 27 = 6) E
theorem op12 : ∀ i, i < 512 → ∀ (a1 a2 a3 : Int32), nDoes κ (zP12 κ a1 a2 a3) (zF12 a1 a2 a3) i [(0, 1), (1, 2), (2, 3)] (fun s => R1 xs nx 101 0 [some (vR 0 (some 0)), some (vI a1), some (vI a2), some (vI a3), none, none] [] s) (fun s => R1 xs nx 199 0 [some (vR 1 (some 0)), some (vI a1), some (vI a2), some (vI a3), none] [] s) := by
  intro i hi a1 a2 a3 s hJ
  have hm : ∃ e, ∀ s, R1 xs nx 199 0 [some (vR 1 (some 0)), some (vI a1), some (vI a2), some (vI a3), none] [] s = R1 xs nx 199 25 [some (vR 1 (some 0)), some (vI a1), some (vI a2), some (vI a3), none] [(vI e)] s := by
    rcases wi79 (xs := xs) (nx := nx) a2 1 30 with ⟨-, h4, -⟩ | ⟨-, h4, -, -⟩
    · exact ⟨0, fun s => by simp only [d_199_0, h4, bI, if_true, d_199_24]⟩
    · rcases wi79 (xs := xs) (nx := nx) a3 0 23 with ⟨-, g4, -⟩ | ⟨-, g4, -, -⟩
      · exact ⟨0, fun s => by simp only [d_199_0, h4, g4, bI, n10, if_false, if_true, d_199_24]⟩
      · exact ⟨1, fun s => by simp only [d_199_0, h4, g4, bI, n10, if_false]⟩
  rcases dep78 (xs := xs) (nx := nx) a1 with ⟨h1, h2⟩ | ⟨d, hd, rfl, h1, h2⟩
  · obtain ⟨e, hm⟩ := hm
    exact nFail (hF := nd78 (h1 s)) (E := 0) (e := 1) (v := 0) hJ (by simp only [d_101_0, h1, bR, hE]) (fun z => by simp only [hm, d_199_25, h2, bI, if_true, d_199_62, r172_1, n10, if_false]) rfl n10
  · rcases wi79 (xs := xs) (nx := nx) a2 1 30 with ⟨h3, h4, h5⟩ | ⟨h3, h4, h5, h6⟩
    · exact nFail (hF := h5.elim Or.inl (fun z => Or.inr (Or.inl z))) (E := 1) (e := 2) (v := 0) hJ (by simp only [d_101_0, h1, bR, ntg_self, h3, bI, if_true, d_101_31, d_101_32, c80_0, bV, hE]) (fun z => by simp only [d_199_0, h2, n10, bI, if_false, h4, if_true, d_199_24, d_199_25, d_199_62, r172_2]) rfl n20
    · rcases wi79 (xs := xs) (nx := nx) a3 0 23 with ⟨g3, g4, g5⟩ | ⟨g3, g4, g5, g6⟩
      · exact nFail (hF := Or.inr (Or.inr g5)) (E := 1) (e := 2) (v := 0) hJ (by simp only [d_101_0, h1, bR, ntg_self, h3, g3, n10, if_false, bI, if_true, d_101_31, d_101_32, c80_0, bV, hE]) (fun z => by simp only [d_199_0, h2, n10, bI, if_false, h4, g4, if_true, d_199_24, d_199_25, d_199_62, r172_2]) rfl n20
      · obtain ⟨q1, q2, q3⟩ := hJ.1.2.2.2.1
        by_cases hA : fN s.1 27 = 6
        · have e1 : ¬ iN (fN s.1 27) < (6 : Int32) := by rw [hA]; decide
          have e2 : s.2.1 1 55 = 6 := by rw [q2, hA]; rfl
          exact nFail (hF := hA) (E := 2) (e := 3) (v := 0) hJ (by simp only [d_101_0, h1, bR, ntg_self, h3, g3, n10, bI, d_101_32, c80_1, bV, q3, List.length_range, e1, if_false, d_101_52, c84_0, hE]) (fun z => by simp only [d_199_0, h2, n10, bI, if_false, h4, g4, e2, if_true, d_199_25, d_199_62, r172_3]) rfl n30
        · have e1 : iN (fN s.1 27) < (6 : Int32) := (iN_lt (b := 6) (by omega) (by omega)).mpr (by omega)
          have e2 : ¬ iN (fN s.1 27) = 6 := fun z => hA ((iN_inj (b := 6) (by omega) (by omega)).mp z)
          have hin : mIn (iN (fN s.1 27)) 6 = true := mIn_iff.mpr ⟨i32_pos (by omega), by rw [i32_nat (by omega)]; omega⟩
          have hnat : (iN (fN s.1 27)).toNatClampNeg = fN s.1 27 := i32_nat (by omega)
          refine nDoneK (hP := ⟨d, hd, rfl, h5, h6, g5, g6, by omega, rfl, rfl, rfl, by simp (disch := decide) only [uM_ne, uM1_ne]⟩) (kNet κ.1 κ.2.2.2.2.2.2.2.2 (uL 17 0 (List.range (fN s.1 27) ++ [fN s.1 27]) (uI 27 (fN s.1 27) 6 0 (uI 27 (fN s.1 27) 5 0 (uI 27 (fN s.1 27) 3 a3 (uI 27 (fN s.1 27) 2 a2 (uX 27 (fN s.1 27) 1 d (uL 11 (fN s.1 27) [] (uN 27 (fN s.1 27 + 1) s.1))))))))) (v := iN (fN s.1 27)) (c' := uL 17 0 (List.range (fN s.1 27) ++ [fN s.1 27]) (uI 27 (fN s.1 27) 6 0 (uI 27 (fN s.1 27) 5 0 (uI 27 (fN s.1 27) 3 a3 (uI 27 (fN s.1 27) 2 a2 (uX 27 (fN s.1 27) 1 d (uL 11 (fN s.1 27) [] (uN 27 (fN s.1 27 + 1) s.1))))))))
            (m' := uM 1 55 (iN (fN s.1 27 + 1)) (uM 81 (fN s.1 27) a3 (uM 80 (fN s.1 27) a2 (uM 79 (fN s.1 27) (iN d) (uM 1 76 0 s.2.1))))) ?_ (by simp only [d_101_0, h1, bR, ntg_self, h3, g3, n10, if_false, bI, d_101_32, c80_1, bV, q3, List.length_range, e1, if_true, d_101_52, c84_1, nn_some, show fN s.1 27 < 500 by omega]) (fun z => ?_) ?_
          · have hV := hJ.2.2.2.2.2.2.2.2.2.2.2.1
            have hM := hJ.2.2.2.2.2.2.2.2.2.2.1
            have hJ0 := hJ
            unfold nJ at hJ ⊢
            simp (disch := decide) only [uM_ne, uM1_ne, fI_ne, fX_ne, fL_ne, fL_at, fN_ne, fN_at, fX_uI, fX_uL, fX_uN, fP_uI, fP_uX, fP_uL, fP_uN, fQ_uI, fQ_uX, fQ_uL, fQ_uN, fL_uI, fL_uX, fL_uN, fN_uI, fN_uX, fN_uL, fI_uX, fI_uL, fI_uN, if_true]
            refine ⟨?_, hJ.2.1, hJ.2.2.1, hJ.2.2.2.1, hJ.2.2.2.2.1, hJ.2.2.2.2.2.1, hJ.2.2.2.2.2.2.1, gSty_mono (Nat.le_refl _) (Nat.le_succ _) (Nat.le_refl _) (fun _ _ => rfl) (fun _ _ => rfl) (fun _ _ => rfl) hJ.2.2.2.2.2.2.2.1, ⟨hJ.2.2.2.2.2.2.2.2.1.1, fun k hk => ?_⟩, hJ.2.2.2.2.2.2.2.2.2.1, gMon_mono (Nat.le_succ _) hM, ?_, hJ.2.2.2.2.2.2.2.2.2.2.2.2.1, hJ.2.2.2.2.2.2.2.2.2.2.2.2.2.1, hJ.2.2.2.2.2.2.2.2.2.2.2.2.2.2.1, ⟨⟨rfl, rfl, rfl, rfl, rfl⟩, rfl, fun _ => rfl, rfl, rfl, fun _ => rfl, rfl, hJ.2.2.2.2.2.2.2.2.2.2.2.2.2.2.2.1.2.2.2.2.2.2.2⟩, hJ.2.2.2.2.2.2.2.2.2.2.2.2.2.2.2.2⟩
            · have hc := hJ.1
              unfold gCnt at hc ⊢
              simp (disch := decide) only [uM_ne, uM1_ne, uM_at, fN_ne, fN_at, fN_uI, fN_uX, fN_uL, if_true, if_false]
              exact ⟨hc.1, hc.2.1, hc.2.2.1, ⟨by omega, trivial, List.range_succ.symm⟩, hc.2.2.2.2⟩
            · have ht := hJ.2.2.2.2.2.2.2.2.1.2 k hk
              refine ⟨ht.1, fun h4' => ?_⟩
              obtain ⟨v', w3, w4⟩ := sty4 hJ0 hk h4'
              have := ht.2 h4'
              rw [uM_at, if_neg (by rw [w4, i32_nat (by omega)]; omega), uM_ne (by decide)]
              exact this
            · obtain ⟨v1, v2, v3⟩ := hV
              refine ⟨fun v hv => ?_, fun v v' k hv hv' hk hk' => ?_, fun v hv6 => ⟨(v3 v hv6).1, fun hv => (v3 v hv6).2 (by omega)⟩⟩
              · by_cases e : v = fN s.1 27
                · have hz := (v3 v (by omega)).2 (by omega)
                  simp (disch := decide) only [fI_at, fX_at, fL_at, uM_at, uM_ne, e, fX_uI, fX_uL, fX_uN, fI_uX, fI_uL, fI_uN, fL_uN, true_and, if_true, if_false, show ¬ (2 : Nat) = 6 by decide, show ¬ (2 : Nat) = 5 by decide, show ¬ (2 : Nat) = 3 by decide, show ¬ (3 : Nat) = 6 by decide, show ¬ (3 : Nat) = 5 by decide]
                  refine ⟨⟨hd, trivial⟩, nIn_of (by decide) h5 h6, nIn_of (by decide) g5 g6, fun _ => ⟨by rw [← e, hz]; rfl, by decide, List.nodup_nil, fun k hk w1 w2 => ?_, fun k hk w => ?_, fun j k hjk => by simp at hjk⟩, fun _ w => absurd rfl w⟩
                  · obtain ⟨v', w3, w4⟩ := sty4 hJ0 hk w1
                    rw [w4] at w2
                    have := (iN_inj (by omega) (by omega)).mp w2
                    omega
                  · rcases (hM k hk).2.2.2.2.1 with y | ⟨v', y1, y2⟩ | ⟨y, y1, y2, y3⟩
                    · rw [y] at w
                      have := (iN_inj (a := 0) (by omega) (by omega)).mp w
                      omega
                    · rw [y2] at w
                      have := (iN_inj (by omega) (by omega)).mp w
                      omega
                    · rw [y3] at w
                      have := (iN_inj (by omega) (by omega)).mp w
                      omega
                · have ha9 := v1 v (by omega)
                  simp (disch := decide) only [fI_at, fX_at, fL_at, uM_at, uM_ne, e, fX_uI, fX_uL, fX_uN, fI_uX, fI_uL, fI_uN, fL_uN, false_and, if_false]
                  exact ha9
              · simp (disch := decide) only [fL_at, fL_uN] at hk hk'
                by_cases e : v = fN s.1 27
                · simp only [e, if_true] at hk; cases hk
                · by_cases e' : v' = fN s.1 27
                  · simp only [e', if_true] at hk'; cases hk'
                  · simp only [e, e', if_false] at hk hk'
                    exact v2 v v' k (by omega) (by omega) hk hk'
          · simp (disch := decide) only [d_199_0, h2, n10, bI, if_false, h4, g4, d_199_25, e2, if_true, d_199_62, r172_0, uM1_ne, q2, hin, hnat, iN_add1, iN_sub1 (show fN s.1 27 < 1000 by omega)]
          · simp (disch := decide) only [uM_ne, uM1_ne, uM_self]
end OPE
end KAP
