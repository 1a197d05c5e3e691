/-! ===== parcel: the call's runs ===== -/
section KAP
variable {κ : kP}
section OPZ
variable {xs : Nat → Int32} {nx : Nat}
/-- parcel -/
abbrev zP8 (κ : kP) (a1 a2 a3 a4 a5 : Int32) (c : nC) (m : nM) (κ' : kP) (c' : nC) (m' : nM) (v : Int32) : Prop := ((∃ u sd r, u < 4 ∧ a1 = iN u ∧ sd < fN c 24 ∧ a3 = iN sd ∧ r < fN c 24 ∧ a4 = iN r ∧ m' 52 (fN c 26) = iN r ∧ m' 49 (fN c 26) = iN u ∧ m' 50 (fN c 26) = a2) ∧ fN c 26 < 40 ∧ v = iN (fN c 26) ∧ (∀ k, k < fN c 26 → ¬ (m 49 k = a1 ∧ m 50 k = a2)) ∧ m' 66 (fN c 26) = 0 ∧ m' 59 (fN c 26) = m 1 0 + 100 ∧ m' 65 (fN c 26) = 0 ∧ m' 63 (fN c 26) = 0 ∧ m' 76 (fN c 26) = 0 ∧ m' 62 (fN c 26) = 1 ∧ m' 60 (fN c 26) = -1) ∧ κ'.1 = κ.1 ∧ κ'.2.1 26 = fN c 26 + 1 ∧ (∀ t, t ≠ 26 → κ'.2.1 t = fN c t) ∧ κ'.2.2.1 = fX c 23 ∧ (∀ l, κ'.2.2.2.1 l = fI c 23 l 3) ∧ κ'.2.2.2.2.1 = fX c 24 ∧ κ'.2.2.2.2.2.1 = fX c 27 ∧ (∀ l, κ'.2.2.2.2.2.2.1 l = fI c 27 l 3) ∧ κ'.2.2.2.2.2.2.2.1 = fX c 28 ∧ κ'.2.2.2.2.2.2.2.2 = κ.2.2.2.2.2.2.2.2 ∧ m' 1 0 = m 1 0
abbrev zF8 (a1 a2 a3 a4 a5 : Int32) (c : nC) (m : nM) (E : Nat) : Prop := f3 (¬ (∃ d, d < 4 ∧ a1 = iN d) ∨ ¬ (∃ k, k < fN c 24 ∧ a3 = iN k) ∨ ¬ (∃ k, k < fN c 24 ∧ a4 = iN k)) (a2 < 0 ∨ 999 < a2 ∨ a5 < 1 ∨ 3 < a5) (fN c 26 = 40 ∨ ∃ k, k < fN c 26 ∧ m 49 k = a1 ∧ m 50 k = a2) E
theorem op8 : ∀ i, i < 512 → ∀ (a1 a2 a3 a4 a5 a6 : Int32), (a6 = 0 ∨ a6 = 1) → nDoes κ (zP8 κ a1 a2 a3 a4 a5) (zF8 a1 a2 a3 a4 a5) i [(0, 1), (1, 2), (2, 3)] (fun s => R1 xs nx 96 0 [some (vR 0 (some 0)), some (vI a1), some (vI a2), some (vI a3), some (vI a4), some (vI a5), some (vI a6), none, none, none, none] [] s) (fun s => R1 xs nx 194 0 [some (vR 1 (some 0)), some (vI a1), some (vI a2), some (vI a3), some (vI a4), some (vI a5), some (vI a6), none, none, none] [] s) := by
  intro i hi a1 a2 a3 a4 a5 a6 h6 s hJ
  have hm : ∃ e : Int32, ∀ (x : Int32) (s : nS), R1 xs nx 194 29 [some (vR 1 (some 0)), some (vI a1), some (vI a2), some (vI a3), some (vI a4), some (vI a5), some (vI a6), none, none, none] [(vI x)] s = R1 xs nx 194 57 [some (vR 1 (some 0)), some (vI a1), some (vI a2), some (vI a3), some (vI a4), some (vI a5), some (vI a6), some (vI x), none, none] [(vI e)] s := by
    rcases wi79 (xs := xs) (nx := nx) a2 0 999 with ⟨-, h4, -⟩ | ⟨-, h4, -, -⟩
    · exact ⟨0, fun x s => by simp only [d_194_29, h4, bI, if_true, d_194_56]⟩
    · rcases wi79 (xs := xs) (nx := nx) a5 1 3 with ⟨-, g4, -⟩ | ⟨-, g4, -, -⟩
      · exact ⟨0, fun x s => by simp only [d_194_29, h4, g4, bI, n10, if_false, if_true, d_194_56]⟩
      · exact ⟨1, fun x s => by simp only [d_194_29, h4, g4, bI, n10, if_false]⟩
  obtain ⟨e9, hm⟩ := hm
  rcases idx92 (xs := xs) (nx := nx) a1 with ⟨h1, h2⟩ | ⟨u, hu, eu, uin, un, h1, h2⟩
  · exact nFail (hF := Or.inl (nd92 (h1 s))) (E := 0) (e := 1) (v := 0) hJ (by simp only [d_96_0, h1, bR, hE]) (fun z => by simp only [d_194_0, h2, bI, if_true, d_194_28, hm, d_194_57, d_194_101, r172_1, n10, if_false]) rfl n10
  · rcases idx90 (xs := xs) (nx := nx) hJ a3 with ⟨g1, g2⟩ | ⟨sd, hsd, es, sin, sn, g1, g2⟩
    · exact nFail (hF := Or.inr (Or.inl (nd90 hJ rfl (g1 s rfl)))) (E := 0) (e := 1) (v := 0) hJ (by simp only [d_96_0, h1, bR, ntg_self, g1 s rfl, hE]) (fun z => by simp only [d_194_0, h2, g2 (s.1, s.2.1, z) rfl, bI, if_true, d_194_28, hm, d_194_57, d_194_101, r172_1, n10, if_false]) rfl n10
    · rcases idx90 (xs := xs) (nx := nx) hJ a4 with ⟨f1, f2⟩ | ⟨r, hr, er, rin, rn, f1, f2⟩
      · exact nFail (hF := Or.inr (Or.inr (nd90 hJ rfl (f1 s rfl)))) (E := 0) (e := 1) (v := 0) hJ (by simp only [d_96_0, h1, bR, ntg_self, g1 s rfl, f1 s rfl, hE]) (fun z => by simp only [d_194_0, h2, g2 (s.1, s.2.1, z) rfl, f2 (s.1, s.2.1, z) rfl, bI, if_true, d_194_28, hm, d_194_57, d_194_101, r172_1, n10, if_false]) rfl n10
      · clear hm e9
        rcases wi79 (xs := xs) (nx := nx) a2 0 999 with ⟨k3, k4, k5⟩ | ⟨k3, k4, k5, k6⟩
        · exact nFail (hF := k5.elim Or.inl (fun z => Or.inr (Or.inl z))) (E := 1) (e := 2) (v := 0) hJ (by simp only [d_96_0, h1, bR, ntg_self, g1 s rfl, f1 s rfl, k3, bI, if_true, d_96_47, d_96_48, c80_0, bV, hE]) (fun z => by simp only [d_194_0, h2, g2 (s.1, s.2.1, z) rfl, f2 (s.1, s.2.1, z) rfl, bI, n10, if_false, d_194_29, k4, if_true, d_194_56, d_194_57, d_194_101, r172_2]) rfl n20
        · rcases wi79 (xs := xs) (nx := nx) a5 1 3 with ⟨j3, j4, j5⟩ | ⟨j3, j4, j5, j6⟩
          · exact nFail (hF := Or.inr (Or.inr j5)) (E := 1) (e := 2) (v := 0) hJ (by simp only [d_96_0, h1, bR, ntg_self, g1 s rfl, f1 s rfl, k3, j3, bI, n10, if_false, if_true, d_96_47, d_96_48, c80_0, bV, hE]) (fun z => by simp only [d_194_0, h2, g2 (s.1, s.2.1, z) rfl, f2 (s.1, s.2.1, z) rfl, bI, n10, if_false, d_194_29, k4, j4, if_true, d_194_56, d_194_57, d_194_101, r172_2]) rfl n20
          · obtain ⟨q1, q2, q3⟩ := hJ.1.2.2.1
            have q4 : (fL s.1 16 0).length = fN s.1 26 := by rw [q3, List.length_range]
            have hc : ∀ s : nS, ∀ x : Int32, R1 xs nx 194 29 [some (vR 1 (some 0)), some (vI a1), some (vI a2), some (vI a3), some (vI a4), some (vI a5), some (vI a6), none, none, none] [(vI x)] s = R1 xs nx 194 57 [some (vR 1 (some 0)), some (vI a1), some (vI a2), some (vI a3), some (vI a4), some (vI a5), some (vI a6), some (vI x), none, none] [(vI 1)] s := fun s x => by simp only [d_194_29, k4, j4, bI, n10, if_false]
            have hc0 : R1 xs nx 96 0 [some (vR 0 (some 0)), some (vI a1), some (vI a2), some (vI a3), some (vI a4), some (vI a5), some (vI a6), none, none, none, none] [] s = R1 xs nx 96 48 [some (vR 0 (some 0)), some (vI a1), some (vI a2), some (vI a3), some (vI a4), some (vI a5), some (vI a6), some (vR 22 (some u)), some (vR 24 (some sd)), some (vR 24 (some r)), none] [(vI 1)] s := by
              simp only [d_96_0, h1, bR, ntg_self, g1 s rfl, f1 s rfl, k3, j3, bI, n10, if_false]
            have hc1 : ∀ s9 : nS, s9.2.1 = s.2.1 → R1 xs nx 194 0 [some (vR 1 (some 0)), some (vI a1), some (vI a2), some (vI a3), some (vI a4), some (vI a5), some (vI a6), none, none, none] [] s9 = R1 xs nx 194 57 [some (vR 1 (some 0)), some (vI a1), some (vI a2), some (vI a3), some (vI a4), some (vI a5), some (vI a6), some (vI 1), none, none] [(vI 1)] s9 := fun s9 h9 => by
              simp only [d_194_0, h2, g2 s9 (by rw [h9]), f2 s9 (by rw [h9]), bI, n10, if_false, hc]
            by_cases hA : fN s.1 26 = 40
            · have e1 : ¬ iN (fN s.1 26) < (40 : Int32) := by rw [hA]; decide
              have e2 : s.2.1 1 24 = 40 := by rw [q2, hA]; rfl
              exact nFail (hF := Or.inl hA) (E := 2) (e := 3) (v := 0) hJ (by simp only [hc0, d_96_48, c80_1, bV, q4, e1, if_false, d_96_77, d_96_78, c84_0, hE]) (fun z => by simp only [hc1 (s.1, s.2.1, z) rfl, d_194_57, n10, if_false, e2, if_true, d_194_96, d_194_101, r172_3, bI]) rfl n30
            · have hlt : fN s.1 26 < 40 := by omega
              have e1 : iN (fN s.1 26) < (40 : Int32) := (iN_lt (b := 40) (by omega) (by omega)).mpr hlt
              have e2 : ¬ iN (fN s.1 26) = 40 := fun z => hA ((iN_inj (b := 40) (by omega) (by omega)).mp z)
              have w1 : R1 xs nx 93 0 [some (vR 0 (some 0)), some (vR 22 (some u)), some (vI a2), none, none] [] s = some (.inl (some (vI (oB (nFst (fun k => decide (fP s.1 26 k 8 = some u ∧ fI s.1 26 k 9 = a2)) (fN s.1 26) 0)))), s) := by
                rw [d_93_0]
                exact ref93 (xs := xs) (nx := nx) (s := s) (u := u) (a2 := a2) q3 q1 (fN s.1 26) 0 none (Nat.zero_add _)
              have w2 : ∀ s9 : nS, s9.2.1 = s.2.1 → R1 xs nx 189 0 [some (vR 1 (some 0)), some (vI a1), some (vI a2), none, none] [] s9 = some (.inl (some (vI (oB (nFst (fun k => decide (s.2.1 49 k = iN u ∧ s.2.1 50 k = a2)) (fN s.1 26) 0)))), s9) := fun s9 h9 => by
                have := ref189 (xs := xs) (nx := nx) (s := s9) (a1 := a1) (a2 := a2) (P := fN s.1 26) (by rw [h9]; exact q2) q1 (fN s.1 26) 0 (Nat.zero_add _)
                rw [h9, eu] at this
                rw [d_189_0, eu]
                exact this
              rw [hasR hJ hu a2] at w1
              revert w1 w2
              cases hF : nFst (fun k => decide (s.2.1 49 k = iN u ∧ s.2.1 50 k = a2)) (fN s.1 26) 0 with
              | some y =>
                intro w1 w2
                simp only [oB] at w1 w2
                refine nFail (hF := Or.inr (by obtain ⟨-, y2, y3⟩ := nFst_some _ _ hF; obtain ⟨y4, y5⟩ := of_decide_eq_true y3; exact ⟨y, by omega, y4.trans eu.symm, y5⟩)) (E := 2) (e := 3) (v := 0) hJ ?_ (fun z => ?_) rfl n30
                · simp only [hc0, d_96_48, c80_1, bV, q4, e1, if_true, w1, bI, n10, if_false, d_96_77, d_96_78, c84_0, hE]
                · simp only [hc1 (s.1, s.2.1, z) rfl, d_194_57, n10, if_false, q2, e2, w2 (s.1, s.2.1, z) rfl, d_194_96, d_194_101, r172_3, bI]
              | none =>
                intro w1 w2
                simp only [oB] at w1 w2
                have hJ' := nJ_76 (x := 0) hJ
                have hp := parcJ (d := fX s.1 24 sd 0) hJ' (by omega) rfl hlt hu hsd hr (nIn_of (by decide) k5 k6) (nIn_of (by decide) j5 j6) h6 rfl (fun j hj z1 z2 => by
                  have := (nFst_none _ _).mp hF j (Nat.zero_le j) (by omega)
                  rw [uM_ne (by decide)] at z1 z2
                  simp [z1, z2] at this)
                obtain ⟨⟨x1, x2⟩, -⟩ := hJ.2.2.2.2.1.1 sd hsd
                have hN26 : fN (cMv (fN s.1 26) 0 (iN (fX s.1 24 sd 0)) (some (fX s.1 24 sd 0)) (some (3, fX s.1 24 sd 0)) (uM 1 76 0 s.2.1 1 0) (uL 16 0 (fL s.1 16 0 ++ [fN s.1 26]) (uI 26 (fN s.1 26) 9 a2 (uP 26 (fN s.1 26) 8 (some u) (nParcel (fN s.1 26) sd r a5 a6 (uM 1 76 0 s.2.1 1 0) s.1))))) 26 = fN s.1 26 + 1 := by
                  rw [cMv_N, fN_uL, fN_uI, fN_uP, pN26]
                obtain ⟨c', t1, t2, t3⟩ := noteJ (xs := xs) (nx := nx) (k := fN s.1 26) (a := 0) hp (by rw [hN26]; omega) x1 ⟨0, by omega, by omega, rfl⟩
                obtain ⟨b1, b2⟩ := nJ_69 hJ
                have hin : mIn (iN (fN s.1 26)) 40 = true := iN_in40 hlt
                have hnat : (iN (fN s.1 26)).toNatClampNeg = fN s.1 26 := i32_nat (by omega)
                have ek : uM 1 76 0 s.2.1 1 0 = s.2.1 1 0 := uM1_ne (by decide)
                rw [ek] at t3
                have hz := hJ.2.2.2.2.2.2.1 (fN s.1 26) (Nat.le_refl _) hlt
                have hno : ∀ k, k < fN s.1 26 → ¬ (s.2.1 49 k = a1 ∧ s.2.1 50 k = a2) := fun k hk z => by
                  have := (nFst_none _ _).mp hF k (Nat.zero_le _) (by omega)
                  rw [eu] at z
                  simp [z.1, z.2] at this
                have hcx : ∀ cX, cX = cMv (fN s.1 26) 0 (iN (fX s.1 24 sd 0)) (some (fX s.1 24 sd 0)) (some (3, fX s.1 24 sd 0)) (uM 1 76 0 s.2.1 1 0) (uL 16 0 (fL s.1 16 0 ++ [fN s.1 26]) (uI 26 (fN s.1 26) 9 a2 (uP 26 (fN s.1 26) 8 (some u) (nParcel (fN s.1 26) sd r a5 a6 (uM 1 76 0 s.2.1 1 0) s.1)))) → (∀ t, t ≠ 26 → fN cX t = fN s.1 t) ∧ fX cX 23 = fX s.1 23 ∧ (∀ l, fI cX 23 l 3 = fI s.1 23 l 3) ∧ fX cX 24 = fX s.1 24 ∧ fX cX 27 = fX s.1 27 ∧ (∀ l, fI cX 27 l 3 = fI s.1 27 l 3) ∧ fX cX 28 = fX s.1 28 := by
                  rintro _ rfl
                  exact ⟨fun t ht => by rw [cMv_N, fN_uL, fN_uI, fN_uP, pN ht], by rw [cMv_X, fX_uL, fX_uI, fX_uP, pX (by decide)], fun l => by rw [cMv_I (by decide), cOut_I (by decide), fI_uL, fI_ne (by decide), fI_uP, pI (by decide) (by decide) (by decide)], by rw [cMv_X, fX_uL, fX_uI, fX_uP, pX (by decide)], by rw [cMv_X, fX_uL, fX_uI, fX_uP, pX (by decide)], fun l => by rw [cMv_I (by decide), cOut_I (by decide), fI_uL, fI_ne (by decide), fI_uP, pI (by decide) (by decide) (by decide)], by rw [cMv_X, fX_uL, fX_uI, fX_uP, pX (by decide)]⟩
                refine nDoneU (hP := ⟨⟨⟨u, sd, r, hu, eu, hsd, es, hr, er, by simp (disch := decide) only [scM_ne, mMv_ne, uM_ne, uM_kk], by simp (disch := decide) only [scM_ne, mMv_ne, uM_ne, uM_kk], by simp (disch := decide) only [scM_ne, mMv_ne, uM_ne, uM_kk]⟩, hlt, rfl, hno, by rw [scM_ne (by decide), mMv_66], by simp (disch := decide) only [scM_ne, mMv_ne, uM_ne, uM_kk, uM1_ne], by simp (disch := decide) only [scM_ne, mMv_ne, uM_ne, hz.2.2.2.2.2.1], by simp (disch := decide) only [scM_ne, mMv_ne, uM_ne, hz.2.2.2.1], by simp (disch := decide) only [scM_ne, mMv_ne, uM_ne, uM_kk], by simp (disch := decide) only [scM_ne, mMv_ne, uM_ne, uM_kk], by simp (disch := decide) only [scM_ne, mMv_ne, uM_ne, uM_kk]⟩, rfl, hN26, (hcx _ rfl).1, (hcx _ rfl).2.1, (hcx _ rfl).2.2.1, (hcx _ rfl).2.2.2.1, (hcx _ rfl).2.2.2.2.1, (hcx _ rfl).2.2.2.2.2.1, (hcx _ rfl).2.2.2.2.2.2, rfl, by simp (disch := decide) only [uM_ne, uM1_ne, mMv_1, scM_1]⟩) (v := iN (fN s.1 26)) t1 ?_ (fun z => ?_) ?_
                · have hmv : R1 xs nx 94 0 [some (vR 0 (some 0)), some (vR 26 (some (fN s.1 26))), some (vR 21 (some (fX s.1 24 sd 0)))] [] (uL 16 0 (fL s.1 16 0 ++ [fN s.1 26]) (uI 26 (fN s.1 26) 9 a2 (uP 26 (fN s.1 26) 8 (some u) (nParcel (fN s.1 26) sd r a5 a6 (s.2.1 1 0) s.1))), s.2) = some (.inl none, (cMv (fN s.1 26) 0 (iN (fX s.1 24 sd 0)) (some (fX s.1 24 sd 0)) (some (3, fX s.1 24 sd 0)) (s.2.1 1 0) (uL 16 0 (fL s.1 16 0 ++ [fN s.1 26]) (uI 26 (fN s.1 26) 9 a2 (uP 26 (fN s.1 26) 8 (some u) (nParcel (fN s.1 26) sd r a5 a6 (s.2.1 1 0) s.1)))), s.2)) := by
                    have z5 : fP (uL 16 0 (fL s.1 16 0 ++ [fN s.1 26]) (uI 26 (fN s.1 26) 9 a2 (uP 26 (fN s.1 26) 8 (some u) (nParcel (fN s.1 26) sd r a5 a6 (s.2.1 1 0) s.1)))) 9 (fN s.1 26) 5 = none := by
                      rw [fP_uL, fP_uI, fP_ne (by decide), p95]
                    have zQ : fQ (uL 16 0 (fL s.1 16 0 ++ [fN s.1 26]) (uI 26 (fN s.1 26) 9 a2 (uP 26 (fN s.1 26) 8 (some u) (nParcel (fN s.1 26) sd r a5 a6 (s.2.1 1 0) s.1)))) (fN s.1 26) = none := by
                      rw [fQ_uL, fQ_uI, fQ_uP, pQ]
                    have zc : fI (uL 16 0 (fL s.1 16 0 ++ [fN s.1 26]) (uI 26 (fN s.1 26) 9 a2 (uP 26 (fN s.1 26) 8 (some u) (nParcel (fN s.1 26) sd r a5 a6 (s.2.1 1 0) s.1)))) 0 0 9 = s.2.1 1 0 := by
                      rw [fI_uL, fI_ne (by decide), fI_uP, pI (by decide) (by decide) (by decide)]
                      exact (nJ_ck hJ).1
                    have zr := mv57 (xs := xs) (nx := nx) (k := fN s.1 26) (w := 0) (a := iN (fX s.1 24 sd 0)) (ck := s.2.1 1 0) (D := some (fX s.1 24 sd 0)) (q := some (3, fX s.1 24 sd 0)) (z := s.2) (fun p hp => by rw [zQ] at hp; cases hp) (fun b hb => by rw [z5] at hb; cases hb) (fun p hp => by
                      rw [← Option.some.inj hp]
                      refine ⟨rfl, ?_⟩
                      rw [cOut_id z5 zQ, fL_ne (show (3 : Nat) ≠ 16 by decide), fL_uI, fL_uP, pL (show (3 : Nat) ≠ 10 by decide)]
                      have := nLin_le (hJ.2.2.2.2.2.2.2.2.2.1.1 (fX s.1 24 sd 0) x1)
                      show (fL s.1 3 (fX s.1 24 sd 0)).length < 500
                      omega)
                    rw [d_94_0]
                    dsimp only
                    rw [zc, zr]
                    rfl
                  have hX : fX (nParcel (fN s.1 26) sd r a5 a6 (s.2.1 1 0) s.1) 24 sd 0 = fX s.1 24 sd 0 := by rw [pX (by decide)]
                  have hX2 : fX (cMv (fN s.1 26) 0 (iN (fX s.1 24 sd 0)) (some (fX s.1 24 sd 0)) (some (3, fX s.1 24 sd 0)) (s.2.1 1 0) (uL 16 0 (fL s.1 16 0 ++ [fN s.1 26]) (uI 26 (fN s.1 26) 9 a2 (uP 26 (fN s.1 26) 8 (some u) (nParcel (fN s.1 26) sd r a5 a6 (s.2.1 1 0) s.1))))) 24 sd 0 = fX s.1 24 sd 0 := by
                    rw [cMv_X, fX_uL, fX_uI, fX_uP, hX]
                  have hL16 : fL (nParcel (fN s.1 26) sd r a5 a6 (s.2.1 1 0) s.1) 16 0 = fL s.1 16 0 := by rw [pL (by decide)]
                  simp only [hc0, d_96_48, c80_1, bV, q4, e1, if_true, w1, bI]
                  rw [d_96_78, c84_1, bV_none, nn_some, nn_some, q4, if_pos ⟨rfl, h6⟩, (nJ_ck hJ).1, hL16, q4, if_pos (by omega), nn_some, hX, hmv, bV_none, nn_some]
                  dsimp only
                  rw [hX2]
                  exact congrArg (fun x => bV x (fun s7 => some (.inl (some (vI (iN (fN s.1 26)))), s7)) hE) (t3 s.2)
                · simp only [hc1 (c', s.2.1, z) rfl, d_194_57, n10, if_false, q2, e2, w2 (c', s.2.1, z) rfl, bI, if_true]
                  rw [d_194_101, r172_0]
                  simp (disch := decide) only [bI, if_true, uM1_ne, q2, hin, true_and, or_true, h6, (show mIn (iN sd) 20 = true from es ▸ sin), hnat, uM_ne, (show (iN sd).toNatClampNeg = sd from es ▸ sn), x2, iN_add1, r191 hlt, bV_none, mMv_ne, es, er, eu]
                  rw [r193 (B := (fL s.1 19 0).length) x1 ?_ b2, bV_none]
                  dsimp only
                  rw [mMv_1 (by decide)]
                  simp (disch := decide) only [uM_ne, uM1_ne]
                  exact b1
                · rw [scM_1 (by decide), mMv0_76]
                  simp (disch := decide) only [uM_ne, uM1_ne, uM_self]
end OPZ
end KAP
