/-! ===== plan, lane, locker ===== -/
section KAP
variable {κ : kP}
section OQG
variable {xs : Nat → Int32} {nx : Nat}
/-- plan -/
abbrev zP5 (κ : kP) (a1 a2 a3 a4 : Int32) (c : nC) (m : nM) (κ' : kP) (c' : nC) (m' : nM) (v : Int32) : Prop := (∃ d t h, d < 5 ∧ t < 5 ∧ h ≤ 1 ∧ a1 = iN d ∧ a2 = iN t ∧ a3 = iN h ∧ d ≠ t ∧ (a4 = -1 ∨ ∃ l, l < fN c 23 ∧ a4 = iN l ∧ fX c 23 l 1 = d) ∧ v = m 34 (10 * d + (2 * t + h)) ∧ m' 34 (10 * d + (2 * t + h)) = a4 ∧ (v = -1 ∨ ∃ l, l < fN c 23 ∧ v = iN l)) ∧ κ' = κ ∧ m' 1 0 = m 1 0
abbrev zF5 (a1 a2 a3 a4 : Int32) (c : nC) (m : nM) (E : Nat) : Prop := f3 (¬ (∃ d, d < 5 ∧ a1 = iN d) ∨ ¬ (∃ d, d < 5 ∧ a2 = iN d) ∨ (¬ a4 = -1 ∧ ¬ (∃ k, k < fN c 23 ∧ a4 = iN k))) ((∃ d, d < 5 ∧ a1 = iN d) ∧ (∃ d, d < 5 ∧ a2 = iN d) ∧ (a4 = -1 ∨ (∃ k, k < fN c 23 ∧ a4 = iN k)) ∧ (a1 = a2 ∨ a3 < 0 ∨ 1 < a3 ∨ ∃ l d, l < fN c 23 ∧ a4 = iN l ∧ d < 5 ∧ a1 = iN d ∧ fX c 23 l 1 ≠ d)) False E
theorem op5 : ∀ i, i < 512 → ∀ (a1 a2 a3 a4 : Int32), nDoes κ (zP5 κ a1 a2 a3 a4) (zF5 a1 a2 a3 a4) i [(0, 1), (1, 2)] (fun s => R1 xs nx 88 0 [some (vR 0 (some 0)), some (vI a1), some (vI a2), some (vI a3), some (vI a4), none, none, none, none] [] s) (fun s => R1 xs nx 186 0 [some (vR 1 (some 0)), some (vI a1), some (vI a2), some (vI a3), some (vI a4), none, none, none] [] s) := by
  intro i hi a1 a2 a3 a4 s hJ
  have hm : ∀ s : nS, s.2.1 1 8 = s.2.1 1 8 → R1 xs nx 186 34 [some (vR 1 (some 0)), some (vI a1), some (vI a2), some (vI a3), some (vI a4), none, none, none] [(vI (0 : Int32))] s = R1 xs nx 186 99 [some (vR 1 (some 0)), some (vI a1), some (vI a2), some (vI a3), some (vI a4), some (vI 0), some (vI 0), none] [(vI (1 : Int32)), (vR 1 (some 0))] s := fun s _ => by
    rw [d_186_34, if_pos rfl, d_186_76, d_186_77, if_pos rfl]
  rcases dep78 (xs := xs) (nx := nx) a1 with ⟨h1, h2⟩ | ⟨d, hd, rfl, h1, h2⟩
  · exact nFail (hF := Or.inl (nd78 (h1 s))) (E := 0) (e := 1) (v := 0) hJ (by simp only [d_88_0, h1, bR, hE]) (fun z => by simp only [d_186_0, h2, bI, if_true, d_186_33, hm (s.1, s.2.1, z) rfl, d_186_99, r172_1, n10, if_false]) rfl n10
  · rcases dep78 (xs := xs) (nx := nx) a2 with ⟨g1, g2⟩ | ⟨t, ht, rfl, g1, g2⟩
    · exact nFail (hF := Or.inr (Or.inl (nd78 (g1 s)))) (E := 0) (e := 1) (v := 0) hJ (by simp only [d_88_0, h1, g1, bR, ntg_self, hE]) (fun z => by simp only [d_186_0, h2, g2, bI, n10, if_false, if_true, d_186_33, hm (s.1, s.2.1, z) rfl, d_186_99, r172_1]) rfl n10
    · have hl : ((¬ a4 = -1 ∧ ¬ ∃ k, k < fN s.1 23 ∧ a4 = iN k) ∧ (∀ s' : nS, s'.1 = s.1 → R1 xs nx 88 0 [some (vR 0 (some 0)), some (vI (iN d)), some (vI (iN t)), some (vI a3), some (vI a4), none, none, none, none] [] s' = some (.inr 0, (s'.1, s'.2.1, s'.2.2.1 + 1, s'.2.2.2))) ∧ ∀ s' : nS, s'.2.1 = s.2.1 → R1 xs nx 186 0 [some (vR 1 (some 0)), some (vI (iN d)), some (vI (iN t)), some (vI a3), some (vI a4), none, none, none] [] s' = R1 xs nx 186 33 [some (vR 1 (some 0)), some (vI (iN d)), some (vI (iN t)), some (vI a3), some (vI a4), none, none, none] [] s') ∨
          ∃ o : Option Nat, ((o = none ∧ a4 = -1) ∨ ∃ l, o = some l ∧ l < fN s.1 23 ∧ a4 = iN l) ∧ (∀ s' : nS, s'.1 = s.1 → R1 xs nx 88 0 [some (vR 0 (some 0)), some (vI (iN d)), some (vI (iN t)), some (vI a3), some (vI a4), none, none, none, none] [] s' = R1 xs nx 88 30 [some (vR 0 (some 0)), some (vI (iN d)), some (vI (iN t)), some (vI a3), some (vI a4), some (vR 21 (some d)), some (vR 21 (some t)), none, none] [(vR 23 o)] s') ∧ ∀ s' : nS, s'.2.1 = s.2.1 → R1 xs nx 186 0 [some (vR 1 (some 0)), some (vI (iN d)), some (vI (iN t)), some (vI a3), some (vI a4), none, none, none] [] s' = R1 xs nx 186 34 [some (vR 1 (some 0)), some (vI (iN d)), some (vI (iN t)), some (vI a3), some (vI a4), none, none, none] [(vI (1 : Int32))] s' := by
        by_cases h9 : a4 = -1
        · refine Or.inr ⟨none, Or.inl ⟨rfl, h9⟩, fun s' _ => ?_, fun s' _ => ?_⟩
          · simp only [d_88_0, h1, g1, bR, ntg_self, h9, if_true]
          · simp only [d_186_0, h2, g2, bI, n10, if_false, h9, if_true, d_186_29]
        · rcases idx86 (xs := xs) (nx := nx) hJ a4 with ⟨f1, f2⟩ | ⟨l, hl, el, -, -, f1, f2⟩
          · refine Or.inl ⟨⟨h9, nd86 hJ rfl (f1 s rfl)⟩, fun s' e => ?_, fun s' e => ?_⟩
            · simp only [d_88_0, h1, g1, bR, ntg_self, h9, if_false, f1 s' (by rw [e]), hE]
            · simp only [d_186_0, h2, g2, bI, n10, if_false, h9, f2 s' (by rw [e]), if_true]
          · refine Or.inr ⟨some l, Or.inr ⟨l, rfl, hl, el⟩, fun s' e => ?_, fun s' e => ?_⟩
            · simp only [d_88_0, h1, g1, bR, ntg_self, h9, if_false, f1 s' (by rw [e])]
            · simp only [d_186_0, h2, g2, bI, n10, if_false, h9, f2 s' (by rw [e]), d_186_29]
      rcases hl with ⟨l0, l1, l2⟩ | ⟨o, ho, l1, l2⟩
      · exact nFail (hF := Or.inr (Or.inr l0)) (E := 0) (e := 1) (v := 0) hJ (l1 s rfl) (fun z => by simp only [l2 (s.1, s.2.1, z) rfl, d_186_33, hm (s.1, s.2.1, z) rfl, d_186_99, r172_1, bI, n10, if_false]) rfl n10
      · by_cases hdt : d = t
        · subst hdt
          exact nFail (hF := ⟨⟨d, hd, rfl⟩, ⟨d, hd, rfl⟩, (by rcases ho with ⟨-, e⟩ | ⟨l, -, hl, e⟩; exact Or.inl e; exact Or.inr ⟨l, hl, e⟩), Or.inl rfl⟩) (E := 1) (e := 2) (v := 0) hJ (by simp only [l1 s rfl, d_88_30, if_true, d_88_52, d_88_53, c80_0, bV, hE]) (fun z => by simp only [l2 (s.1, s.2.1, z) rfl, d_186_34, n10, if_false, if_true, d_186_76, d_186_77, d_186_99, r172_2, bI]) rfl n20
        · have hdt1 : ¬ (some d : Option Nat) = some t := fun z => hdt (Option.some.inj z)
          have hdt2 : ¬ iN d = iN t := fun z => hdt ((iN_inj (by omega) (by omega)).mp z)
          have hol : a4 = -1 ∨ ∃ k, k < fN s.1 23 ∧ a4 = iN k := by
            rcases ho with ⟨-, e⟩ | ⟨l, -, hl, e⟩
            · exact Or.inl e
            · exact Or.inr ⟨l, hl, e⟩
          rcases wi79 (xs := xs) (nx := nx) a3 0 1 with ⟨h3, h4, h5⟩ | ⟨h3, h4, h5, h6⟩
          · exact nFail (hF := ⟨⟨d, hd, rfl⟩, ⟨t, ht, rfl⟩, hol, Or.inr (h5.elim Or.inl (fun z => Or.inr (Or.inl z)))⟩) (E := 1) (e := 2) (v := 0) hJ (by simp only [l1 s rfl, d_88_30, hdt1, if_false, h3, bI, if_true, d_88_52, d_88_53, c80_0, bV, hE]) (fun z => by simp only [l2 (s.1, s.2.1, z) rfl, d_186_34, n10, hdt2, if_false, h4, bI, if_true, d_186_76, d_186_77, d_186_99, r172_2]) rfl n20
          · obtain ⟨h, -, hh, rfl⟩ := nIn_of (x := a3) (a := 0) (b := 1) (by decide) h5 h6
            have hc0 : R1 xs nx 88 0 [some (vR 0 (some 0)), some (vI (iN d)), some (vI (iN t)), some (vI (iN h)), some (vI a4), none, none, none, none] [] s = R1 xs nx 88 53 [some (vR 0 (some 0)), some (vI (iN d)), some (vI (iN t)), some (vI (iN h)), some (vI a4), some (vR 21 (some d)), some (vR 21 (some t)), some (vR 23 o), none] [(vI (1 : Int32))] s := by
              simp only [l1 s rfl, d_88_30, hdt1, if_false, h3, bI, n10]
            by_cases hf : ∀ l, o = some l → fX s.1 23 l 1 = d
            · have hc1 : R1 xs nx 88 0 [some (vR 0 (some 0)), some (vI (iN d)), some (vI (iN t)), some (vI (iN h)), some (vI a4), none, none, none, none] [] s = R1 xs nx 88 76 [some (vR 0 (some 0)), some (vI (iN d)), some (vI (iN t)), some (vI (iN h)), some (vI a4), some (vR 21 (some d)), some (vR 21 (some t)), some (vR 23 o), none] [(vI (1 : Int32))] s := by
                rw [hc0, d_88_53, c80_1, bV_none]
                cases o with
                | none => rw [nz_none, d_88_71]
                | some l => rw [nz_some, nn_some, hf l rfl, if_pos rfl, d_88_71]
              have hm1 : ∀ s' : nS, s'.2.1 = s.2.1 → R1 xs nx 186 0 [some (vR 1 (some 0)), some (vI (iN d)), some (vI (iN t)), some (vI (iN h)), some (vI a4), none, none, none] [] s' = R1 xs nx 186 99 [some (vR 1 (some 0)), some (vI (iN d)), some (vI (iN t)), some (vI (iN h)), some (vI a4), some (vI 1), some (vI 1), none] [(vI (0 : Int32)), (vR 1 (some 0))] s' := by
                intro s' e
                simp only [l2 s' e, d_186_34, n10, hdt2, if_false, h4, bI]
                rcases ho with ⟨-, rfl⟩ | ⟨l, rfl, hl, rfl⟩
                · simp only [if_true, d_186_72, d_186_77, n10, if_false]
                · obtain ⟨⟨x1, x2⟩, -⟩ := hJ.2.2.2.1.1 l hl
                  have h12 := hJ.1.1.1
                  have hln : mIn (iN l) 12 = true := mIn_iff.mpr ⟨i32_pos (by omega), by rw [i32_nat (by omega)]; omega⟩
                  have hx : s'.2.1 35 (iN l).toNatClampNeg = iN d := by rw [e, i32_nat (by omega), x2, hf l rfl]
                  simp only [iN_ne1 (show l < 2 ^ 31 by omega), if_false, hln, if_true, hx, d_186_72, d_186_77, n10]
              have ei : (2 : Int32) * iN t + iN h = iN (2 * t + h) := by
                rw [show (2 : Int32) = iN 2 from rfl, iN_mul]
                exact i32_add
              have er : (2 : Int32) * ((5 : Int32) * iN d + iN t) + iN h = iN (10 * d + (2 * t + h)) := by
                rw [show (5 : Int32) = iN 5 from rfl, iN_mul, show iN (5 * d) + iN t = iN (5 * d + t) from i32_add, show (2 : Int32) = iN 2 from rfl, iN_mul, show iN (2 * (5 * d + t)) + iN h = iN (2 * (5 * d + t) + h) from i32_add]
                congr 1
                omega
              have hD := hJ.2.2.1
              have hDd := (hD d hd).2.2.2.2.2 (2 * t + h) (by omega)
              have hv : s.2.1 34 (10 * d + (2 * t + h)) = oI (fP s.1 4 d (2 * t + h)) := by
                revert hDd
                cases fP s.1 4 d (2 * t + h) with
                | none => exact fun z => z
                | some l => exact fun z => z.2.2
              have ha4 : a4 = oI o := by
                rcases ho with ⟨rfl, e⟩ | ⟨l, rfl, hl, e⟩
                · exact e
                · exact e
              have hol2 : a4 = -1 ∨ ∃ l, l < fN s.1 23 ∧ a4 = iN l ∧ fX s.1 23 l 1 = d := by
                rcases ho with ⟨-, e⟩ | ⟨l, w, hl, e⟩
                · exact Or.inl e
                · exact Or.inr ⟨l, hl, e, hf l w⟩
              have hvn : s.2.1 34 (10 * d + (2 * t + h)) = -1 ∨ ∃ l, l < fN s.1 23 ∧ s.2.1 34 (10 * d + (2 * t + h)) = iN l := by
                revert hDd
                cases fP s.1 4 d (2 * t + h) with
                | none => exact fun z => Or.inl z
                | some l => exact fun z => Or.inr ⟨l, z.1, z.2.2⟩
              refine nDone (hP := ⟨⟨d, t, h, hd, ht, hh, rfl, rfl, rfl, hdt, hol2, rfl, uM_kk, hvn⟩, rfl, by simp (disch := decide) only [uM_ne, uM1_ne]⟩) (v := s.2.1 34 (10 * d + (2 * t + h))) (c' := uP 4 d (2 * t + h) o s.1) (m' := uM 34 (10 * d + (2 * t + h)) a4 (uM 1 76 0 s.2.1)) ?_ ?_ (fun z => ?_) ?_
              · have hJ' := nJ_76 (x := 0) hJ
                unfold nJ at hJ' ⊢
                simp (disch := decide) only [uM_ne, uM1_ne, fP_ne, fX_uP, fI_uP, fQ_uP, fL_uP, fN_uP] at hJ' ⊢
                obtain ⟨j1, j2, j3, j4, j5⟩ := hJ'
                refine ⟨j1, j2, ?_, j4, j5⟩
                intro x hx
                obtain ⟨w1, w2, w3, w4, w5, w6⟩ := j3 x hx
                refine ⟨w1, w2, w3, w4, w5, fun j hj => ?_⟩
                rw [fP_at, uM_at]
                by_cases q : x = d ∧ j = 2 * t + h
                · obtain ⟨rfl, rfl⟩ := q
                  rw [if_pos ⟨rfl, rfl⟩, if_pos rfl]
                  rcases ho with ⟨rfl, e⟩ | ⟨l, rfl, hl, e⟩
                  · exact e
                  · exact ⟨hl, hf l rfl, e⟩
                · rw [if_neg q, if_neg (fun z => q ⟨by omega, by omega⟩), uM_ne (by decide)]
                  exact w6 j hj
              · rw [hc1, d_88_76, c80_1, bV_none, nn_some, d_46_0, ei, if_neg (iN_pos (by omega)), if_pos (show iN (2 * t + h) < (10 : Int32) from (iN_lt (b := 10) (by omega) (by omega)).mpr (by omega)), if_pos (iN_in (by omega) (by decide)), i32_nat (by omega)]
                simp only [bR, ntg_self, nn_some]
                rw [d_47_0, ei, if_neg (iN_pos (by omega)), if_pos (show iN (2 * t + h) < (10 : Int32) from (iN_lt (b := 10) (by omega) (by omega)).mpr (by omega)), if_pos (iN_in (by omega) (by decide)), i32_nat (by omega), bV_none, hv]
                cases fP s.1 4 d (2 * t + h) <;> rfl
              · rw [hm1 (uP 4 d (2 * t + h) o s.1, s.2.1, z) rfl, d_186_99, r172_0, bI_some, if_pos rfl, d_185_0, er, bI_some, if_pos (iN_in (by omega) (by decide)), d_185_0, er, bI_some, if_pos (iN_in (by omega) (by decide)), i32_nat (by omega)]
                dsimp only
                rw [uM_ne (by decide)]
              · rw [uM_ne (by decide), uM_self]
            · obtain ⟨l, e1, e2⟩ : ∃ l, o = some l ∧ fX s.1 23 l 1 ≠ d := by
                cases o with
                | none => exact absurd (fun l z => by cases z) hf
                | some l => exact ⟨l, rfl, fun z => hf (fun l' e => by rw [← Option.some.inj e]; exact z)⟩
              subst e1
              rcases ho with ⟨w, -⟩ | ⟨l', w, hl, rfl⟩
              · cases w
              · have w := Option.some.inj w
                subst w
                obtain ⟨⟨x1, x2⟩, -⟩ := hJ.2.2.2.1.1 l hl
                have h12 := hJ.1.1.1
                have hln : mIn (iN l) 12 = true := mIn_iff.mpr ⟨i32_pos (by omega), by rw [i32_nat (by omega)]; omega⟩
                have hx : ¬ s.2.1 35 (iN l).toNatClampNeg = iN d := by
                  rw [i32_nat (by omega), x2]
                  exact fun z => e2 ((iN_inj (by omega) (by omega)).mp z)
                have e3 : ¬ (some (fX s.1 23 l 1) : Option Nat) = some d := fun z => e2 (Option.some.inj z)
                exact nFail (hF := ⟨⟨d, hd, rfl⟩, ⟨t, ht, rfl⟩, hol, Or.inr (Or.inr (Or.inr ⟨l, d, hl, rfl, hd, rfl, e2⟩))⟩) (E := 1) (e := 2) (v := 0) hJ (by simp only [hc0, d_88_53, c80_1, bV, nz_some, nn_some, e3, if_false, d_88_76, c80_0, hE]) (fun z => by simp only [l2 (s.1, s.2.1, z) rfl, d_186_34, n10, hdt2, if_false, h4, bI, iN_ne1 (show l < 2 ^ 31 by omega), hln, if_true, hx, d_186_76, d_186_77, d_186_99, r172_2]) rfl n20
end OQG
/-! ===== lane, locker ===== -/
section OQH
variable {xs : Nat → Int32} {nx : Nat}
theorem kind_l {i : Nat} {c : nC} {m : nM} (hJ : nJ κ i c m) {k : Nat} (hk : k < fN c 26) : (m 66 k = 1 → ∃ l, l < fN c 23 ∧ m 67 k = iN l) ∧ (m 66 k = 2 → ∃ l, l < fN c 23 ∧ m 67 k = iN l) ∧ (m 66 k = 5 → ∃ l, l < fN c 28 ∧ m 67 k = iN l) := by
  obtain ⟨-, -, -, -, y⟩ := hJ.2.2.2.2.2.2.2.1 k hk
  rcases y with ⟨z, d, hd, z1, -⟩ | ⟨z, d, hd, z1, -⟩ | ⟨z, d, hd, z1, -⟩ | ⟨z, d, hd, z1, -⟩ | ⟨z, d, hd, z1, -⟩ | ⟨z, d, hd, z1, -⟩ | ⟨z, d, hd, z1, -⟩ | ⟨z, -⟩ | ⟨z, -⟩
  · exact ⟨fun w => absurd (z.symm.trans w) (by decide), fun w => absurd (z.symm.trans w) (by decide), fun w => absurd (z.symm.trans w) (by decide)⟩
  · exact ⟨fun _ => ⟨d, hd, z1⟩, fun w => absurd (z.symm.trans w) (by decide), fun w => absurd (z.symm.trans w) (by decide)⟩
  · exact ⟨fun w => absurd (z.symm.trans w) (by decide), fun _ => ⟨d, hd, z1⟩, fun w => absurd (z.symm.trans w) (by decide)⟩
  · exact ⟨fun w => absurd (z.symm.trans w) (by decide), fun w => absurd (z.symm.trans w) (by decide), fun w => absurd (z.symm.trans w) (by decide)⟩
  · exact ⟨fun w => absurd (z.symm.trans w) (by decide), fun w => absurd (z.symm.trans w) (by decide), fun w => absurd (z.symm.trans w) (by decide)⟩
  · exact ⟨fun w => absurd (z.symm.trans w) (by decide), fun w => absurd (z.symm.trans w) (by decide), fun _ => ⟨d, hd, z1⟩⟩
  · exact ⟨fun w => absurd (z.symm.trans w) (by decide), fun w => absurd (z.symm.trans w) (by decide), fun w => absurd (z.symm.trans w) (by decide)⟩
  · exact ⟨fun w => absurd (z.symm.trans w) (by decide), fun w => absurd (z.symm.trans w) (by decide), fun w => absurd (z.symm.trans w) (by decide)⟩
  · exact ⟨fun w => absurd (z.symm.trans w) (by decide), fun w => absurd (z.symm.trans w) (by decide), fun w => absurd (z.symm.trans w) (by decide)⟩
/-- lane -/
abbrev zP3 (κ : kP) (a1 a2 a3 a4 : Int32) (c : nC) (m : nM) (κ' : kP) (c' : nC) (m' : nM) (v : Int32) : Prop := ∃ d t, d < 5 ∧ t < 5 ∧ a1 = iN d ∧ a2 = iN t ∧ d ≠ t ∧ ¬ a3 < 1 ∧ ¬ 24 < a3 ∧ fN c 23 < 12 ∧ v = iN (fN c 23) ∧ κ' = kNet κ.1 κ.2.2.2.2.2.2.2.2 c' ∧ c' = uL 14 0 (List.range (fN c 23) ++ [fN c 23]) (uI 23 (fN c 23) 12 (-1) (uI 23 (fN c 23) 11 1 (uI 23 (fN c 23) 10 1 (uI 23 (fN c 23) 9 1 (uI 23 (fN c 23) 8 0 (uI 23 (fN c 23) 7 10 (uI 23 (fN c 23) 4 a4 (uI 23 (fN c 23) 3 a3 (uX 23 (fN c 23) 2 t (uX 23 (fN c 23) 1 d (uL 6 (fN c 23) [] (uL 5 (fN c 23) [] (uN 23 (fN c 23 + 1) c))))))))))))) ∧ m' 1 0 = m 1 0
abbrev zF3 (a1 a2 a3 a4 : Int32) (c : nC) (m : nM) (E : Nat) : Prop := f3 (¬ (∃ d, d < 5 ∧ a1 = iN d) ∨ ¬ (∃ d, d < 5 ∧ a2 = iN d)) ((∃ d, d < 5 ∧ a1 = iN d) ∧ (a1 = a2 ∨ a3 < 1 ∨ 24 < a3)) ((∃ d, d < 5 ∧ a1 = iN d) ∧ a1 ≠ a2 ∧ ¬ 24 < a3 ∧ fN c 23 = 12) E
theorem op3 : ∀ i, i < 512 → ∀ (a1 a2 a3 a4 : Int32), (a4 = 0 ∨ a4 = 1) → nDoes κ (zP3 κ a1 a2 a3 a4) (zF3 a1 a2 a3 a4) i [(0, 1), (1, 2), (2, 3)] (fun s => R1 xs nx 85 0 [some (vR 0 (some 0)), some (vI a1), some (vI a2), some (vI a3), some (vI a4), none, none, none] [] s) (fun s => R1 xs nx 183 0 [some (vR 1 (some 0)), some (vI a1), some (vI a2), some (vI a3), some (vI a4), none, none] [] s) := by
  intro i hi a1 a2 a3 a4 hb s hJ
  have hm : ∃ e : Int32, ∀ (x : Int32) (s : nS), R1 xs nx 183 19 [some (vR 1 (some 0)), some (vI a1), some (vI a2), some (vI a3), some (vI a4), none, none] [(vI x)] s = R1 xs nx 183 41 [some (vR 1 (some 0)), some (vI a1), some (vI a2), some (vI a3), some (vI a4), some (vI x), none] [(vI e)] s := by
    by_cases e : a1 = a2
    · exact ⟨0, fun x s => by simp only [d_183_19, e, if_true, d_183_40]⟩
    · rcases wi79 (xs := xs) (nx := nx) a3 1 24 with ⟨-, h4, -⟩ | ⟨-, h4, -, -⟩
      · exact ⟨0, fun x s => by simp only [d_183_19, e, if_false, h4, bI, if_true, d_183_40]⟩
      · exact ⟨1, fun x s => by simp only [d_183_19, e, if_false, h4, bI, n10]⟩
  rcases dep78 (xs := xs) (nx := nx) a1 with ⟨h1, h2⟩ | ⟨d, hd, rfl, h1, h2⟩
  · obtain ⟨e9, hm⟩ := hm
    exact nFail (hF := Or.inl (nd78 (h1 s))) (E := 0) (e := 1) (v := 0) hJ (by simp only [d_85_0, h1, bR, hE]) (fun z => by simp only [d_183_0, h2, bI, if_true, d_183_18, hm, d_183_41, d_183_76, r172_1, n10, if_false]) rfl n10
  · rcases dep78 (xs := xs) (nx := nx) a2 with ⟨g1, g2⟩ | ⟨t, ht, rfl, g1, g2⟩
    · obtain ⟨e9, hm⟩ := hm
      exact nFail (hF := Or.inr (nd78 (g1 s))) (E := 0) (e := 1) (v := 0) hJ (by simp only [d_85_0, h1, g1, bR, ntg_self, hE]) (fun z => by simp only [d_183_0, h2, g2, bI, n10, if_false, if_true, d_183_18, hm, d_183_41, d_183_76, r172_1]) rfl n10
    · clear hm
      by_cases hdt : d = t
      · subst hdt
        exact nFail (hF := ⟨⟨d, hd, rfl⟩, Or.inl rfl⟩) (E := 1) (e := 2) (v := 0) hJ (by simp only [d_85_0, h1, bR, ntg_self, if_true, d_85_33, d_85_34, c80_0, bV, hE]) (fun z => by simp only [d_183_0, h2, bI, n10, if_false, d_183_19, if_true, d_183_40, d_183_41, d_183_76, r172_2]) rfl n20
      · have hdt2 : ¬ iN d = iN t := fun z => hdt ((iN_inj (by omega) (by omega)).mp z)
        rcases wi79 (xs := xs) (nx := nx) a3 1 24 with ⟨h3, h4, h5⟩ | ⟨h3, h4, h5, h6⟩
        · exact nFail (hF := ⟨⟨d, hd, rfl⟩, Or.inr h5⟩) (E := 1) (e := 2) (v := 0) hJ (by simp only [d_85_0, h1, g1, bR, ntg_self, hdt2, if_false, h3, bI, if_true, d_85_33, d_85_34, c80_0, bV, hE]) (fun z => by simp only [d_183_0, h2, g2, bI, n10, if_false, d_183_19, hdt2, h4, if_true, d_183_40, d_183_41, d_183_76, r172_2]) rfl n20
        · obtain ⟨q1, q2, q3⟩ := hJ.1.1
          by_cases hA : fN s.1 23 = 12
          · have e1 : ¬ iN (fN s.1 23) < (12 : Int32) := by rw [hA]; decide
            have e2 : s.2.1 1 8 = 12 := by rw [q2, hA]; rfl
            exact nFail (hF := ⟨⟨d, hd, rfl⟩, hdt2, h6, hA⟩) (E := 2) (e := 3) (v := 0) hJ (by simp only [d_85_0, h1, g1, bR, ntg_self, hdt2, if_false, h3, bI, n10, d_85_34, c80_1, bV, q3, List.length_range, e1, d_85_54, c84_0, hE]) (fun z => by simp only [d_183_0, h2, g2, bI, n10, if_false, d_183_19, hdt2, h4, d_183_41, e2, if_true, d_183_76, r172_3]) rfl n30
          · have e1 : iN (fN s.1 23) < (12 : Int32) := (iN_lt (b := 12) (by omega) (by omega)).mpr (by omega)
            have e2 : ¬ iN (fN s.1 23) = 12 := fun z => hA ((iN_inj (b := 12) (by omega) (by omega)).mp z)
            have hin : mIn (iN (fN s.1 23)) 12 = true := mIn_iff.mpr ⟨i32_pos (by omega), by rw [i32_nat (by omega)]; omega⟩
            have hnat : (iN (fN s.1 23)).toNatClampNeg = fN s.1 23 := i32_nat (by omega)
            refine nDoneK (hP := ⟨d, t, hd, ht, rfl, rfl, hdt, h5, h6, by omega, rfl, rfl, rfl, by simp (disch := decide) only [uM_ne, uM1_ne]⟩) (kNet κ.1 κ.2.2.2.2.2.2.2.2 (uL 14 0 (List.range (fN s.1 23) ++ [fN s.1 23]) (uI 23 (fN s.1 23) 12 (-1) (uI 23 (fN s.1 23) 11 1 (uI 23 (fN s.1 23) 10 1 (uI 23 (fN s.1 23) 9 1 (uI 23 (fN s.1 23) 8 0 (uI 23 (fN s.1 23) 7 10 (uI 23 (fN s.1 23) 4 a4 (uI 23 (fN s.1 23) 3 a3 (uX 23 (fN s.1 23) 2 t (uX 23 (fN s.1 23) 1 d (uL 6 (fN s.1 23) [] (uL 5 (fN s.1 23) [] (uN 23 (fN s.1 23 + 1) s.1))))))))))))))) (v := iN (fN s.1 23)) (c' := uL 14 0 (List.range (fN s.1 23) ++ [fN s.1 23]) (uI 23 (fN s.1 23) 12 (-1) (uI 23 (fN s.1 23) 11 1 (uI 23 (fN s.1 23) 10 1 (uI 23 (fN s.1 23) 9 1 (uI 23 (fN s.1 23) 8 0 (uI 23 (fN s.1 23) 7 10 (uI 23 (fN s.1 23) 4 a4 (uI 23 (fN s.1 23) 3 a3 (uX 23 (fN s.1 23) 2 t (uX 23 (fN s.1 23) 1 d (uL 6 (fN s.1 23) [] (uL 5 (fN s.1 23) [] (uN 23 (fN s.1 23 + 1) s.1))))))))))))))
              (m' := uM 1 8 (iN (fN s.1 23 + 1)) (uM 44 (fN s.1 23) (-1) (uM 43 (fN s.1 23) 1 (uM 42 (fN s.1 23) 1 (uM 41 (fN s.1 23) 1 (uM 39 (fN s.1 23) 10 (uM 38 (fN s.1 23) a4 (uM 37 (fN s.1 23) a3 (uM 36 (fN s.1 23) (iN t) (uM 35 (fN s.1 23) (iN d) (uM 1 76 0 s.2.1))))))))))) ?_ (by simp only [d_85_0, h1, g1, bR, ntg_self, hdt2, if_false, h3, bI, n10, d_85_34, c80_1, bV, q3, List.length_range, e1, if_true, d_85_54, c84_1, nn_some, true_and, hb, show fN s.1 23 < 500 by omega]) (fun z => ?_) ?_
            · have hL := hJ.2.2.2.1
              have hJ0 := hJ
              unfold nJ at hJ ⊢
              obtain ⟨j1, j2, j3, j4, j5, j6, j7, j8, j9, j10, j11, j12, j13, j14, j15⟩ := hJ
              simp (disch := decide) only [uM_ne, uM1_ne, fI_ne, fX_ne, fL_ne, fL_at, fN_ne, fN_at, fX_uI, fX_uL, fX_uN, fP_uI, fP_uX, fP_uL, fP_uN, fQ_uI, fQ_uX, fQ_uL, fQ_uN, fL_uI, fL_uX, fL_uN, fN_uI, fN_uX, fN_uL, fI_uX, fI_uL, fI_uN, if_true]
              refine ⟨?_, j2, ?_, ?_, j5, j6, j7, ?_, j9, ?_, j11, j12, j13, j14, j15.1, ⟨⟨rfl, rfl, rfl, rfl, rfl⟩, rfl, fun _ => rfl, rfl, rfl, fun _ => rfl, rfl, j15.2.1.2.2.2.2.2.2.2⟩, j15.2.2.1, j15.2.2.2.1, ?_, j15.2.2.2.2.2⟩
              · unfold gCnt at j1 ⊢
                simp (disch := decide) only [uM_ne, uM1_ne, uM_at, fN_ne, fN_at, fN_uI, fN_uX, fN_uL, if_true, if_false]
                exact ⟨⟨by omega, by trivial, List.range_succ.symm⟩, j1.2⟩
              · intro x hx
                obtain ⟨w1, w2, w3, w4, w5, w6⟩ := j3 x hx
                refine ⟨w1, w2, w3, w4, w5, fun j hj => ?_⟩
                have := w6 j hj
                revert this
                cases fP s.1 4 x j with
                | none => exact fun z => z
                | some l =>
                  rintro ⟨y1, y2, y3⟩
                  refine ⟨by omega, ?_, y3⟩
                  rw [fX_n (by omega), fX_n (by omega), fX_uL, fX_uL, fX_uN]
                  exact y2
              · obtain ⟨y1, y2⟩ := j4
                refine ⟨fun l hl => ?_, fun l hl hl2 => ?_⟩
                · by_cases e : l = fN s.1 23
                  · subst e
                    have h40 := y2 (fN s.1 23) (Nat.le_refl _) (by omega)
                    simp (disch := decide) only [fI_k, fX_k, fI_uX, fX_uL, fI_uL, fX_uI, fI_uN, fX_uN, uM_ne, uM_kk, h40]
                    refine ⟨⟨hd, by trivial⟩, ⟨ht, by trivial⟩, ⟨by trivial, nIn_of (by decide) h5 h6⟩, ⟨by trivial, hb⟩, ⟨by trivial, 10, by omega, by omega, rfl⟩, ⟨by trivial, 0, by omega, by omega, rfl⟩, ⟨by trivial, 1, by omega, by omega, rfl⟩, ⟨by trivial, 1, by omega, by omega, rfl⟩, ⟨by trivial, 1, by omega, by omega, rfl⟩, by trivial, Or.inl (by trivial)⟩
                  · have := y1 l (by omega)
                    simp (disch := decide) only [fI_n e, fX_n e, fI_uX, fX_uL, fI_uL, fX_uI, fI_uN, fX_uN, uM_ne, uM_k e]
                    exact this
                · exact y2 l (by omega) hl2
              · refine gSty_mono (Nat.le_succ _) (Nat.le_refl _) (Nat.le_refl _) (fun l hl => ?_) (fun _ _ => rfl) (fun l hl => ?_) j8
                · rw [fX_n (by omega), fX_n (by omega), fX_uL, fX_uL, fX_uN]
                · have e : l ≠ fN s.1 23 := by omega
                  simp only [fI_n e, fI_uX, fI_uL, fI_uN]
              · obtain ⟨y1, y2, y3⟩ := j10
                refine ⟨y1, fun l hl => ?_, fun l hl => ?_⟩
                · by_cases e : l = fN s.1 23
                  · subst e
                    rw [fL_at, if_pos rfl]
                    refine ⟨fun k => ⟨fun z => (by cases z), fun z => ?_⟩, List.Pairwise.nil⟩
                    obtain ⟨l', l1, l2⟩ := (kind_l hJ0 z.1).1 z.2.1
                    rw [l2] at z
                    have := (iN_inj (by omega) (by omega)).mp z.2.2
                    omega
                  · rw [fL_at, if_neg e, fL_uN]
                    exact y2 l (by omega)
                · by_cases e : l = fN s.1 23
                  · subst e
                    rw [fL_at, if_pos rfl]
                    refine ⟨⟨fun k => ⟨fun z => (by cases z), fun z => ?_⟩, List.Pairwise.nil⟩, List.Pairwise.nil⟩
                    obtain ⟨l', l1, l2⟩ := (kind_l hJ0 z.1).2.1 z.2.1
                    rw [l2] at z
                    have := (iN_inj (by omega) (by omega)).mp z.2.2
                    omega
                  · rw [fL_at, if_neg e, fL_ne (by decide), fL_uN]
                    exact y3 l (by omega)
              · intro l hl
                rw [fL_at]
                by_cases e : l = fN s.1 23
                · rw [if_pos e]
                  exact Nat.zero_le _
                · rw [if_neg e]
                  exact j15.2.2.2.2.1 l (by omega)
            · simp only [d_183_0, h2, g2, bI, n10, if_false, d_183_19, hdt2, h4, d_183_41, q2, e2]
              rw [d_183_76, r172_0, bI_some, if_pos rfl]
              have e8 : uM 1 76 0 s.2.1 1 8 = iN (fN s.1 23) := by rw [uM1_ne (by decide), q2]
              simp only [e8, hin, hnat, if_true, true_and, hb, iN_add1, iN_sub1 (show fN s.1 23 < 1000 by omega)]
            · simp (disch := decide) only [uM_ne, uM1_ne, uM_self]
theorem fI_W {t k k' j : Nat} {f : Nat → Int32} {c : nC} : fI (uW t k f c) t k' j = if k' = k then f j else fI c t k' j := by
  show up2 (fI c) t k f t k' j = _
  unfold up2
  by_cases e : k' = k
  · rw [if_pos ⟨rfl, e⟩, if_pos e]
  · rw [if_neg (fun z => e z.2), if_neg e]
theorem fI_Wn {t t' k : Nat} {f : Nat → Int32} {c : nC} (h : t' ≠ t) : fI (uW t k f c) t' = fI c t' := by
  funext k' j
  show up2 (fI c) t k f t' k' j = _
  unfold up2
  rw [if_neg (fun z => h z.1)]
/-- locker -/
abbrev zP13 (κ : kP) (a1 a2 a3 a4 : Int32) (c : nC) (m : nM) (κ' : kP) (c' : nC) (m' : nM) (v : Int32) : Prop := ∃ d, d < 5 ∧ a1 = iN d ∧ fN c 28 < 5 ∧ v = iN (fN c 28) ∧ κ' = kNet κ.1 (up1 κ.2.2.2.2.2.2.2.2 (fN c 28) (a2 + a3 + a4)) c' ∧ c' = uL 18 0 (List.range (fN c 28) ++ [fN c 28]) (uW 7 (fN c 28) (upd (upd (upd (upd (fun _ => 0) 0 0) 1 a2) 2 a3) 3 a4) (uX 28 (fN c 28) 1 d (uN 28 (fN c 28 + 1) c))) ∧ m' 1 0 = m 1 0
abbrev zF13 (a1 a2 a3 a4 : Int32) (c : nC) (m : nM) (E : Nat) : Prop := f3 (¬ (∃ d, d < 5 ∧ a1 = iN d)) (a2 < 0 ∨ 5 < a2 ∨ a3 < 0 ∨ 5 < a3 ∨ a4 < 0 ∨ 5 < a4) (fN c 28 = 5) E
theorem op13 : ∀ i, i < 512 → ∀ (a1 a2 a3 a4 : Int32), nDoes κ (zP13 κ a1 a2 a3 a4) (zF13 a1 a2 a3 a4) i [(0, 1), (1, 2), (2, 3)] (fun s => R1 xs nx 102 0 [some (vR 0 (some 0)), some (vI a1), some (vI a2), some (vI a3), some (vI a4), none, none] [] s) (fun s => R1 xs nx 200 0 [some (vR 1 (some 0)), some (vI a1), some (vI a2), some (vI a3), some (vI a4), none] [] s) := by
  intro i hi a1 a2 a3 a4 s hJ
  have hm : ∃ e : Int32, ∀ s : nS, R1 xs nx 200 0 [some (vR 1 (some 0)), some (vI a1), some (vI a2), some (vI a3), some (vI a4), none] [] s = R1 xs nx 200 33 [some (vR 1 (some 0)), some (vI a1), some (vI a2), some (vI a3), some (vI a4), none] [(vI e)] s := by
    rcases wi79 (xs := xs) (nx := nx) a2 0 5 with ⟨-, h4, -⟩ | ⟨-, h4, -, -⟩
    · exact ⟨0, fun s => by simp only [d_200_0, h4, bI, if_true, d_200_32]⟩
    · rcases wi79 (xs := xs) (nx := nx) a3 0 5 with ⟨-, g4, -⟩ | ⟨-, g4, -, -⟩
      · exact ⟨0, fun s => by simp only [d_200_0, h4, g4, bI, n10, if_false, if_true, d_200_32]⟩
      · rcases wi79 (xs := xs) (nx := nx) a4 0 5 with ⟨-, f4, -⟩ | ⟨-, f4, -, -⟩
        · exact ⟨0, fun s => by simp only [d_200_0, h4, g4, f4, bI, n10, if_false, if_true, d_200_32]⟩
        · exact ⟨1, fun s => by simp only [d_200_0, h4, g4, f4, bI, n10, if_false]⟩
  rcases dep78 (xs := xs) (nx := nx) a1 with ⟨h1, h2⟩ | ⟨d, hd, rfl, h1, h2⟩
  · obtain ⟨e9, hm⟩ := hm
    exact nFail (hF := nd78 (h1 s)) (E := 0) (e := 1) (v := 0) hJ (by simp only [d_102_0, h1, bR, hE]) (fun z => by simp only [hm, d_200_33, h2, bI, if_true, d_200_69, r172_1, n10, if_false]) rfl n10
  · clear hm
    rcases wi79 (xs := xs) (nx := nx) a2 0 5 with ⟨h3, h4, h5⟩ | ⟨h3, h4, h5, h6⟩
    · exact nFail (hF := h5.elim Or.inl (fun z => Or.inr (Or.inl z))) (E := 1) (e := 2) (v := 0) hJ (by simp only [d_102_0, h1, bR, ntg_self, h3, bI, if_true, d_102_39, d_102_40, c80_0, bV, hE]) (fun z => by simp only [d_200_0, h4, bI, if_true, d_200_32, d_200_33, h2, n10, if_false, d_200_69, r172_2]) rfl n20
    · rcases wi79 (xs := xs) (nx := nx) a3 0 5 with ⟨g3, g4, g5⟩ | ⟨g3, g4, g5, g6⟩
      · exact nFail (hF := Or.inr (Or.inr (g5.elim Or.inl (fun z => Or.inr (Or.inl z))))) (E := 1) (e := 2) (v := 0) hJ (by simp only [d_102_0, h1, bR, ntg_self, h3, g3, n10, if_false, bI, if_true, d_102_39, d_102_40, c80_0, bV, hE]) (fun z => by simp only [d_200_0, h4, g4, bI, if_true, d_200_32, d_200_33, h2, n10, if_false, d_200_69, r172_2]) rfl n20
      · rcases wi79 (xs := xs) (nx := nx) a4 0 5 with ⟨f3, f4, f5⟩ | ⟨f3, f4, f5, f6⟩
        · exact nFail (hF := Or.inr (Or.inr (Or.inr (Or.inr f5)))) (E := 1) (e := 2) (v := 0) hJ (by simp only [d_102_0, h1, bR, ntg_self, h3, g3, f3, n10, if_false, bI, if_true, d_102_39, d_102_40, c80_0, bV, hE]) (fun z => by simp only [d_200_0, h4, g4, f4, bI, if_true, d_200_32, d_200_33, h2, n10, if_false, d_200_69, r172_2]) rfl n20
        · obtain ⟨q1, q2, q3⟩ := hJ.1.2.2.2.2.1
          have q26 := hJ.1.2.2.1.1
          by_cases hA : fN s.1 28 = 5
          · have e1 : ¬ iN (fN s.1 28) < (5 : Int32) := by rw [hA]; decide
            have e2 : s.2.1 1 65 = 5 := by rw [q2, hA]; rfl
            exact nFail (hF := hA) (E := 2) (e := 3) (v := 0) hJ (by simp only [d_102_0, h1, bR, ntg_self, h3, g3, f3, n10, if_false, bI, d_102_40, c80_1, bV, q3, List.length_range, e1, d_102_59, c84_0, hE]) (fun z => by simp only [d_200_0, h4, g4, f4, bI, n10, if_false, d_200_33, h2, e2, if_true, d_200_69, r172_3]) rfl n30
          · have e1 : iN (fN s.1 28) < (5 : Int32) := (iN_lt (b := 5) (by omega) (by omega)).mpr (by omega)
            have e2 : ¬ iN (fN s.1 28) = 5 := fun z => hA ((iN_inj (b := 5) (by omega) (by omega)).mp z)
            have hin : mIn (iN (fN s.1 28)) 5 = true := mIn_iff.mpr ⟨i32_pos (by omega), by rw [i32_nat (by omega)]; omega⟩
            have hnat : (iN (fN s.1 28)).toNatClampNeg = fN s.1 28 := i32_nat (by omega)
            have h4l : ∀ j, j < 4 → (4 : Int32) * iN (fN s.1 28) + iN j = iN (4 * fN s.1 28 + j) := fun j _ => by
              rw [show (4 : Int32) = iN 4 from rfl, iN_mul]
              exact i32_add
            have p1 : (4 : Int32) * iN (fN s.1 28) + 1 = iN (4 * fN s.1 28 + 1) := h4l 1 (by omega)
            have p2 : (4 : Int32) * iN (fN s.1 28) + 2 = iN (4 * fN s.1 28 + 2) := h4l 2 (by omega)
            have p3 : (4 : Int32) * iN (fN s.1 28) + 3 = iN (4 * fN s.1 28 + 3) := h4l 3 (by omega)
            have i1 : mIn (iN (4 * fN s.1 28 + 1)) 20 = true := iN_in (by omega) (by decide)
            have i2 : mIn (iN (4 * fN s.1 28 + 2)) 20 = true := iN_in (by omega) (by decide)
            have i3 : mIn (iN (4 * fN s.1 28 + 3)) 20 = true := iN_in (by omega) (by decide)
            have t1 : (iN (4 * fN s.1 28 + 1)).toNatClampNeg = 4 * fN s.1 28 + 1 := i32_nat (by omega)
            have t2 : (iN (4 * fN s.1 28 + 2)).toNatClampNeg = 4 * fN s.1 28 + 2 := i32_nat (by omega)
            have t3 : (iN (4 * fN s.1 28 + 3)).toNatClampNeg = 4 * fN s.1 28 + 3 := i32_nat (by omega)
            refine nDoneK (hP := ⟨d, hd, rfl, by omega, rfl, rfl, rfl, by simp (disch := decide) only [uM_ne, uM1_ne]⟩) (kNet κ.1 (up1 κ.2.2.2.2.2.2.2.2 (fN s.1 28) (a2 + a3 + a4)) (uL 18 0 (List.range (fN s.1 28) ++ [fN s.1 28]) (uW 7 (fN s.1 28) (upd (upd (upd (upd (fun _ => 0) 0 0) 1 a2) 2 a3) 3 a4) (uX 28 (fN s.1 28) 1 d (uN 28 (fN s.1 28 + 1) s.1))))) (v := iN (fN s.1 28)) (c' := uL 18 0 (List.range (fN s.1 28) ++ [fN s.1 28]) (uW 7 (fN s.1 28) (upd (upd (upd (upd (fun _ => 0) 0 0) 1 a2) 2 a3) 3 a4) (uX 28 (fN s.1 28) 1 d (uN 28 (fN s.1 28 + 1) s.1))))
              (m' := uM 1 65 (iN (fN s.1 28 + 1)) (uM 89 (4 * fN s.1 28 + 3) a4 (uM 89 (4 * fN s.1 28 + 2) a3 (uM 89 (4 * fN s.1 28 + 1) a2 (uM 88 (fN s.1 28) (iN d) (uM 1 76 0 s.2.1)))))) ?_ (by simp only [d_102_0, h1, bR, ntg_self, h3, g3, f3, n10, if_false, bI, d_102_40, c80_1, bV, q3, List.length_range, e1, if_true, d_102_59, c84_1, nn_some, show fN s.1 28 < 500 by omega]) (fun z => ?_) ?_
            · have hJ0 := hJ
              unfold nJ at hJ ⊢
              obtain ⟨j1, j2, j3, j4, j5, j6, j7, j8, j9, j10, j11, j12, j13, j14, j15⟩ := hJ
              simp (disch := decide) only [uM_ne, uM1_ne, fI_Wn, fX_uW, fP_uW, fQ_uW, fL_uW, fN_uW, fX_ne, fL_ne, fL_at, fN_ne, fN_at, fX_uL, fX_uN, fP_uX, fP_uL, fP_uN, fQ_uX, fQ_uL, fQ_uN, fL_uX, fL_uN, fN_uX, fN_uL, fI_uX, fI_uL, fI_uN, if_true]
              refine ⟨?_, j2, j3, j4, j5, j6, j7, ?_, j9, j10, j11, j12, ?_, j14, j15.1, ⟨⟨rfl, rfl, rfl, rfl, rfl⟩, rfl, fun _ => rfl, rfl, rfl, fun _ => rfl, rfl, fun l hl => ?_⟩, j15.2.2⟩
              · unfold gCnt at j1 ⊢
                simp (disch := decide) only [uM_ne, uM1_ne, uM_at, fN_ne, fN_at, fN_uW, fN_uX, fN_uL, if_true, if_false]
                exact ⟨j1.1, j1.2.1, j1.2.2.1, j1.2.2.2.1, ⟨by omega, by trivial, List.range_succ.symm⟩, j1.2.2.2.2.2⟩
              · refine gSty_mono (Nat.le_refl _) (Nat.le_refl _) (Nat.le_succ _) (fun _ _ => rfl) (fun l hl => ?_) (fun _ _ => rfl) j8
                rw [fX_n (by omega), fX_uN]
              · intro l hl
                by_cases e : l = fN s.1 28
                · subst e
                  refine ⟨⟨by rw [fX_k, if_pos rfl]; exact hd, by rw [fX_k, if_pos rfl, uM_kk]⟩, fun j w1 w4 => ?_⟩
                  have hz : ((List.range (fN s.1 26)).filter fun k => decide (s.2.1 66 k = 5 ∧ s.2.1 67 k = iN (fN s.1 28) ∧ s.2.1 71 k = iN j)) = [] := by
                    rw [List.filter_eq_nil_iff]
                    intro k hk z
                    obtain ⟨z1, z2, -⟩ := of_decide_eq_true z
                    rw [List.mem_range] at hk
                    obtain ⟨l', l1, l2⟩ := (kind_l hJ0 hk).2.2 z1
                    rw [l2] at z2
                    have := (iN_inj (by omega) (by omega)).mp z2
                    omega
                  rw [hz, List.length_nil, fI_W, if_pos rfl]
                  have hx : uM 89 (4 * fN s.1 28 + 3) a4 (uM 89 (4 * fN s.1 28 + 2) a3 (uM 89 (4 * fN s.1 28 + 1) a2 (uM 88 (fN s.1 28) (iN d) (uM 1 76 0 s.2.1)))) 89 (4 * fN s.1 28 + j) = upd (upd (upd (upd (fun _ => 0) 0 0) 1 a2) 2 a3) 3 a4 j := by
                    have hj : j = 1 ∨ j = 2 ∨ j = 3 := by omega
                    rcases hj with rfl | rfl | rfl
                    · rw [uM_at, if_neg (by omega), uM_at, if_neg (by omega), uM_at, if_pos rfl]
                      rfl
                    · rw [uM_at, if_neg (by omega), uM_at, if_pos rfl]
                      rfl
                    · rw [uM_at, if_pos rfl]
                      rfl
                  rw [hx]
                  have hi5 : nIn (upd (upd (upd (upd (fun _ => 0) 0 0) 1 a2) 2 a3) 3 a4 j : Int32) 0 5 := by
                    have hj : j = 1 ∨ j = 2 ∨ j = 3 := by omega
                    rcases hj with rfl | rfl | rfl
                    · exact nIn_of (x := a2) (by decide) h5 h6
                    · exact nIn_of (x := a3) (by decide) g5 g6
                    · exact nIn_of (x := a4) (by decide) f5 f6
                  exact ⟨hi5, hi5, (Int32.add_zero _).symm⟩
                · obtain ⟨⟨y1, y2⟩, y3⟩ := j13 l (by omega)
                  refine ⟨⟨by rw [fX_n e, fX_uN]; exact y1, by rw [fX_n e, fX_uN, uM_k e]; exact y2⟩, fun j w1 w4 => ?_⟩
                  have := y3 j w1 w4
                  rw [fI_W, if_neg e, uM_at, if_neg (by omega), uM_at, if_neg (by omega), uM_at, if_neg (by omega), uM_ne (by decide), uM_ne (by decide)]
                  exact this
              · have hl : l < fN s.1 28 + 1 := hl
                show _ = up1 κ.2.2.2.2.2.2.2.2 (fN s.1 28) (a2 + a3 + a4) l
                unfold up1
                by_cases e : l = fN s.1 28
                · subst e
                  rw [if_pos rfl, uM_at, if_neg (by omega), uM_at, if_neg (by omega), uM_at, if_pos rfl, uM_at, if_neg (by omega), uM_at, if_pos rfl, uM_at, if_pos rfl]
                · rw [if_neg e]
                  simp only [uM_at, show ¬ 4 * l + 1 = 4 * fN s.1 28 + 3 by omega, show ¬ 4 * l + 1 = 4 * fN s.1 28 + 2 by omega, show ¬ 4 * l + 1 = 4 * fN s.1 28 + 1 by omega, show ¬ 4 * l + 2 = 4 * fN s.1 28 + 3 by omega, show ¬ 4 * l + 2 = 4 * fN s.1 28 + 2 by omega, show ¬ 4 * l + 2 = 4 * fN s.1 28 + 1 by omega, show ¬ 4 * l + 3 = 4 * fN s.1 28 + 3 by omega, show ¬ 4 * l + 3 = 4 * fN s.1 28 + 2 by omega, show ¬ 4 * l + 3 = 4 * fN s.1 28 + 1 by omega, if_false, uM_ne (show (89 : Nat) ≠ 88 by decide), uM_ne (show (89 : Nat) ≠ 1 by decide)]
                  exact j15.2.1.2.2.2.2.2.2.2 l (by omega)
            · simp (disch := decide) only [d_200_0, h4, g4, f4, bI, n10, if_false, d_200_33, h2, q2, e2, d_200_69, r172_0, if_true, uM1_ne, hin, hnat, p1, p2, p3, i1, i2, i3, t1, t2, t3, iN_add1, iN_sub1 (show fN s.1 28 < 1000 by omega)]
            · simp (disch := decide) only [uM_ne, uM1_ne, uM_self]
end OQH
end KAP
