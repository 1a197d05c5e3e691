/-! ===== away, timetable ===== -/
section KAP
variable {κ : kP}
section OPC
variable {xs : Nat → Int32} {nx : Nat}
theorem nJ_adr {i : Nat} {c c' : nC} {m m' : nM} (h : nJ κ i c m) (hA : gAdr (fX c 24) (fI c' 24) (fN c 24) (m 45) (m 46) (m' 47) (m' 48))
    (hc : ∀ t, t ≠ 24 → fI c' t = fI c t) (hc2 : c'.2 = c.2) (hm : ∀ t, (t < 47 ∨ 48 < t) → m' t = m t) : nJ κ i c' m' := by
  have e1 : fX c' = fX c := congrArg (·.1) hc2
  have e2 : fP c' = fP c := congrArg (·.2.1) hc2
  have e3 : fQ c' = fQ c := congrArg (·.2.2.1) hc2
  have e4 : fL c' = fL c := congrArg (·.2.2.2.1) hc2
  have e5 : fN c' = fN c := congrArg (·.2.2.2.2) hc2
  unfold nJ at h ⊢
  simp (disch := decide) only [hc, hm, e1, e2, e3, e4, e5]
  exact ⟨h.1, h.2.1, h.2.2.1, h.2.2.2.1, hA, h.2.2.2.2.2⟩
theorem gSty_fl {h : Nat → Nat → Int32} {D : Nat → Nat → Option Nat} {q : Nat → Option (Nat × Nat)} {XL XK : Nat → Nat → Nat} {fl fl' : Nat → Nat → Int32} {n1 n2 n3 n4 pp : Nat} {ck : Int32} {a b c d e f g i j : Nat → Int32} (hf : ∀ l, fl' l 3 = fl l 3) (h1 : gSty h D q XL XK fl n1 n2 n3 n4 pp ck a b c d e f g i j) : gSty h D q XL XK fl' n1 n2 n3 n4 pp ck a b c d e f g i j := by
  intro k hk
  have := h1 k hk
  unfold nSty at this ⊢
  simp only [hf]
  exact this
theorem gKap_fl {N : Nat → Nat} {X23 X24 X27 X28 : Nat → Nat → Nat} {f23 f23' f27 : Nat → Nat → Int32} {m89 : Nat → Int32} (hf : ∀ l, f23' l 3 = f23 l 3) (h : gKap κ N X23 f23 X24 X27 f27 X28 m89) : gKap κ N X23 f23' X24 X27 f27 X28 m89 :=
  ⟨h.1, h.2.1, fun l => (hf l).trans (h.2.2.1 l), h.2.2.2⟩
theorem gKap_t {a b c d e f g h h' r : Prop} (H : a ∧ b ∧ c ∧ d ∧ e ∧ f ∧ g ∧ h ∧ r) (k : h → h') : a ∧ b ∧ c ∧ d ∧ e ∧ f ∧ g ∧ h' ∧ r := ⟨H.1, H.2.1, H.2.2.1, H.2.2.2.1, H.2.2.2.2.1, H.2.2.2.2.2.1, H.2.2.2.2.2.2.1, k H.2.2.2.2.2.2.2.1, H.2.2.2.2.2.2.2.2⟩
theorem gKap_s {a b c d e f h h' r : Prop} (H : a ∧ b ∧ c ∧ d ∧ e ∧ f ∧ h ∧ r) (k : h → h') : a ∧ b ∧ c ∧ d ∧ e ∧ f ∧ h' ∧ r := ⟨H.1, H.2.1, H.2.2.1, H.2.2.2.1, H.2.2.2.2.1, H.2.2.2.2.2.1, k H.2.2.2.2.2.2.1, H.2.2.2.2.2.2.2⟩
theorem nJ_lan {i : Nat} {c c' : nC} {m m' : nM} (h : nJ κ i c m) (hA : gLan (fX c 23) (fI c' 23) (fN c 23) (m 1 0) (m' 35) (m' 36) (m' 37) (m' 38) (m' 39) (m' 40) (m' 41) (m' 42) (m' 43) (m' 44)) (hf : ∀ l, fI c' 23 l 3 = fI c 23 l 3)
    (hc : ∀ t, t ≠ 23 → fI c' t = fI c t) (hc2 : c'.2 = c.2) (hm : ∀ t, (t < 35 ∨ 44 < t) → m' t = m t) : nJ κ i c' m' := by
  have e1 : fX c' = fX c := congrArg (·.1) hc2
  have e2 : fP c' = fP c := congrArg (·.2.1) hc2
  have e3 : fQ c' = fQ c := congrArg (·.2.2.1) hc2
  have e4 : fL c' = fL c := congrArg (·.2.2.2.1) hc2
  have e5 : fN c' = fN c := congrArg (·.2.2.2.2) hc2
  unfold nJ at h ⊢
  simp (disch := decide) only [hc, hm, e1, e2, e3, e4, e5]
  exact ⟨h.1, h.2.1, h.2.2.1, hA, h.2.2.2.2.1, h.2.2.2.2.2.1, h.2.2.2.2.2.2.1, gSty_fl hf h.2.2.2.2.2.2.2.1, gKap_t h.2.2.2.2.2.2.2.2 (gKap_fl hf)⟩
/-- away -/
abbrev zP7 (κ : kP) (a1 a2 a3 : Int32) (c : nC) (m : nM) (κ' : kP) (c' : nC) (m' : nM) (v : Int32) : Prop := (∃ k, k < fN c 24 ∧ a1 = iN k) ∧ ¬ a2 < 0 ∧ ¬ 24 < a2 ∧ ¬ a3 < a2 ∧ ¬ 24 < a3 ∧ κ' = κ ∧ v = 24 - (a3 - a2) ∧ m' 1 0 = m 1 0
abbrev zF7 (a1 a2 a3 : Int32) (c : nC) (m : nM) (E : Nat) : Prop := f3 (¬ (∃ k, k < fN c 24 ∧ a1 = iN k)) (a2 < 0 ∨ 24 < a2 ∨ a3 < a2 ∨ 24 < a3) False E
theorem op7 : ∀ i, i < 512 → ∀ (a1 a2 a3 : Int32), nDoes κ (zP7 κ a1 a2 a3) (zF7 a1 a2 a3) i [(0, 1), (1, 2)] (fun s => R1 xs nx 91 0 [some (vR 0 (some 0)), some (vI a1), some (vI a2), some (vI a3), none] [] s) (fun s => R1 xs nx 188 0 [some (vR 1 (some 0)), some (vI a1), some (vI a2), some (vI a3), none] [] s) := by
  intro i hi a1 a2 a3 s hJ
  have hr : (∀ as0 s, R1 xs nx 188 0 [some (vR 1 (some 0)), some (vI a1), some (vI a2), some (vI a3), none] [] s = R1 xs nx 188 25 [some (vR 1 (some 0)), some (vI a1), some (vI a2), some (vI a3), none] [(vI as0)] s → True) := fun _ _ _ => trivial
  rcases idx90 (xs := xs) (nx := nx) hJ a1 with ⟨h1, h2⟩ | ⟨k, hk, ea, hin, en, h1, h2⟩
  · refine nFail (hF := nd90 hJ rfl (h1 s rfl)) (E := 0) (e := 1) (v := 0) hJ (by simp only [d_91_0, h1 s rfl, bR, hE]) (fun z => ?_) rfl n10
    rcases wi79 (xs := xs) (nx := nx) a2 0 24 with ⟨h3, h4, -⟩ | ⟨h3, h4, h5, h6⟩
    · simp only [d_188_0, h4, bI, if_true, d_188_24, d_188_25, h2 (s.1, s.2.1, z) rfl, d_188_50, r172_1, n10, if_false]
    · rcases wi79 (xs := xs) (nx := nx) a3 a2 24 with ⟨g3, g4, -⟩ | ⟨g3, g4, g5, g6⟩
      · simp only [d_188_0, h4, g4, bI, if_true, d_188_24, d_188_25, h2 (s.1, s.2.1, z) rfl, d_188_50, r172_1, n10, if_false]
      · simp only [d_188_0, h4, g4, bI, if_true, d_188_25, h2 (s.1, s.2.1, z) rfl, d_188_50, r172_1, n10, if_false]
  · rcases wi79 (xs := xs) (nx := nx) a2 0 24 with ⟨h3, h4, h5⟩ | ⟨h3, h4, h5, h6⟩
    · exact nFail (hF := h5.elim Or.inl (fun z => Or.inr (Or.inl z))) (E := 1) (e := 2) (v := 0) hJ (by simp only [d_91_0, h1 s rfl, bR, ntg_self, h3, bI, if_true, d_91_31, d_91_32, c80_0, bV, hE]) (fun z => by simp only [d_188_0, h4, bI, if_true, d_188_24, d_188_25, h2 (s.1, s.2.1, z) rfl, d_188_50, r172_2, n10, if_false]) rfl n20
    · rcases wi79 (xs := xs) (nx := nx) a3 a2 24 with ⟨g3, g4, g5⟩ | ⟨g3, g4, g5, g6⟩
      · exact nFail (hF := Or.inr (Or.inr g5)) (E := 1) (e := 2) (v := 0) hJ (by simp only [d_91_0, h1 s rfl, bR, ntg_self, h3, bI, n10, if_false, g3, if_true, d_91_31, d_91_32, c80_0, bV, hE]) (fun z => by simp only [d_188_0, h4, g4, bI, if_true, d_188_24, d_188_25, h2 (s.1, s.2.1, z) rfl, d_188_50, r172_2, n10, if_false]) rfl n20
      · have hA := hJ.2.2.2.2.1
        have q2 := nIn_of (x := a2) (a := 0) (b := 24) (by decide) h5 h6
        have q3 : nIn a3 0 24 := by
          refine nIn_of (by decide) (fun z => g5 ?_) g6
          rw [Int32.lt_iff_toInt_lt] at z ⊢
          have : ¬ a2.toInt < 0 := fun w => h5 (by rw [Int32.lt_iff_toInt_lt]; exact w)
          have : (iN 0).toInt = 0 := rfl
          omega
        refine nDone (hP := ⟨⟨k, hk, ea⟩, h5, h6, g5, g6, rfl, rfl, by simp (disch := decide) only [uM_ne, uM1_ne]⟩) (v := 24 - (a3 - a2)) (c' := uI 24 k 3 a3 (uI 24 k 2 a2 s.1)) (m' := uM 48 k a3 (uM 47 k a2 (uM 1 76 0 s.2.1))) ?_ (by simp only [d_91_0, h1 s rfl, bR, ntg_self, h3, bI, n10, if_false, g3, d_91_32, c80_1, bV, nn_some]) (fun z => ?_) ?_
        · refine nJ_adr (nJ_76 (x := 0) hJ) ?_ (fun t ht => by rw [fI_ne ht, fI_ne ht]) rfl (fun t ht => by rw [uM_ne (by omega), uM_ne (by omega)])
          simp (disch := decide) only [uM_ne]
          refine ⟨fun a ha => ?_, fun a ha hb => ?_⟩
          · have ha9 := hA.1 a ha
            simp only [fI_at, uM_at, uM_ne (show (48 : Nat) ≠ 47 by decide), uM_ne (show (48 : Nat) ≠ 1 by decide), uM_ne (show (47 : Nat) ≠ 1 by decide)]
            by_cases e : a = k
            · subst e
              simp only [true_and, if_true, show ¬ (1 : Nat) = 3 by decide, show ¬ (1 : Nat) = 2 by decide, show ¬ (2 : Nat) = 3 by decide, show ¬ (3 : Nat) = 2 by decide, if_false]
              exact ⟨ha9.1, ha9.2.1, q2, q3⟩
            · simp only [e, false_and, if_false]
              exact ha9
          · have hb9 := hA.2 a ha hb
            simp only [uM_at, uM_ne (show (48 : Nat) ≠ 47 by decide), uM_ne (show (48 : Nat) ≠ 1 by decide), uM_ne (show (47 : Nat) ≠ 1 by decide), show ¬ a = k by omega, if_false]
            exact hb9
        · simp only [d_188_0, h4, g4, bI, n10, if_false, d_188_25, h2 (uI 24 k 3 a3 (uI 24 k 2 a2 s.1), s.2.1, z) rfl, d_188_50, r172_0, if_true, hin, en]
        · rw [uM_ne (by decide), uM_ne (by decide)]
          exact uM_self
/-- timetable -/
abbrev zP4 (κ : kP) (a1 a2 a3 a4 a5 a6 : Int32) (c : nC) (m : nM) (κ' : kP) (c' : nC) (m' : nM) (v : Int32) : Prop := (∃ k, k < fN c 23 ∧ a1 = iN k) ∧ ¬ a2 < 1 ∧ ¬ 20 < a2 ∧ κ' = κ ∧ nIn v 101 3000 ∧ m' 1 0 = m 1 0
abbrev zF4 (a1 a2 a3 a4 a5 a6 : Int32) (c : nC) (m : nM) (E : Nat) : Prop := f3 (¬ (∃ k, k < fN c 23 ∧ a1 = iN k)) ((∃ k, k < fN c 23 ∧ a1 = iN k) ∧ (a2 < 1 ∨ 20 < a2 ∨ a3 < 0 ∨ 100 < a3 ∨ a4 < 1 ∨ 48 < a4 ∨ a5 < 1 ∨ 20 < a5 ∨ a6 < 0 ∨ 24 < a6)) False E
theorem op4 : ∀ i, i < 512 → ∀ (a1 a2 a3 a4 a5 a6 : Int32), nDoes κ (zP4 κ a1 a2 a3 a4 a5 a6) (zF4 a1 a2 a3 a4 a5 a6) i [(0, 1), (1, 2)] (fun s => R1 xs nx 87 0 [some (vR 0 (some 0)), some (vI a1), some (vI a2), some (vI a3), some (vI a4), some (vI a5), some (vI a6), none, none] [] s) (fun s => R1 xs nx 184 0 [some (vR 1 (some 0)), some (vI a1), some (vI a2), some (vI a3), some (vI a4), some (vI a5), some (vI a6), none, none] [] s) := by
  intro i hi a1 a2 a3 a4 a5 a6 s hJ
  have hm : (∃ e, ∀ s, R1 xs nx 184 0 [some (vR 1 (some 0)), some (vI a1), some (vI a2), some (vI a3), some (vI a4), some (vI a5), some (vI a6), none, none] [] s = R1 xs nx 184 58 [some (vR 1 (some 0)), some (vI a1), some (vI a2), some (vI a3), some (vI a4), some (vI a5), some (vI a6), none, none] [(vI e)] s) := by
    rcases wi79 (xs := xs) (nx := nx) a2 1 20 with ⟨-, h4, -⟩ | ⟨-, h4, -, -⟩
    · exact ⟨0, fun s => by simp only [d_184_0, h4, bI, if_true, d_184_57]⟩
    · rcases wi79 (xs := xs) (nx := nx) a3 0 100 with ⟨-, g4, -⟩ | ⟨-, g4, -, -⟩
      · exact ⟨0, fun s => by simp only [d_184_0, h4, g4, bI, n10, if_false, if_true, d_184_57]⟩
      · rcases wi79 (xs := xs) (nx := nx) a4 1 48 with ⟨-, f4, -⟩ | ⟨-, f4, -, -⟩
        · exact ⟨0, fun s => by simp only [d_184_0, h4, g4, f4, bI, n10, if_false, if_true, d_184_57]⟩
        · rcases wi79 (xs := xs) (nx := nx) a5 1 20 with ⟨-, k4, -⟩ | ⟨-, k4, -, -⟩
          · exact ⟨0, fun s => by simp only [d_184_0, h4, g4, f4, k4, bI, n10, if_false, if_true, d_184_57]⟩
          · rcases wi79 (xs := xs) (nx := nx) a6 0 24 with ⟨-, j4, -⟩ | ⟨-, j4, -, -⟩
            · exact ⟨0, fun s => by simp only [d_184_0, h4, g4, f4, k4, j4, bI, n10, if_false, if_true, d_184_57]⟩
            · exact ⟨1, fun s => by simp only [d_184_0, h4, g4, f4, k4, j4, bI, n10, if_false, if_true]⟩
  rcases idx86 (xs := xs) (nx := nx) hJ a1 with ⟨h1, h2⟩ | ⟨k, hk, ea, hin, en, h1, h2⟩
  · obtain ⟨e, hm⟩ := hm
    exact nFail (hF := nd86 hJ rfl (h1 s rfl)) (E := 0) (e := 1) (v := 0) hJ (by simp only [d_87_0, h1 s rfl, bR, hE]) (fun z => by simp only [hm, d_184_58, h2 (s.1, s.2.1, z) rfl, bI, if_true, d_184_83, r172_1, n10, if_false]) rfl n10
  · rcases wi79 (xs := xs) (nx := nx) a2 1 20 with ⟨h3, h4, h5⟩ | ⟨h3, h4, h5, h6⟩
    · exact nFail (hF := ⟨⟨k, hk, ea⟩, (h5).elim Or.inl (fun z => Or.inr (Or.inl z))⟩) (E := 1) (e := 2) (v := 0) hJ (by simp only [d_87_0, h1 s rfl, bR, ntg_self, h3, bI, if_true, d_87_42, d_87_43, c80_0, bV, hE]) (fun z => by simp only [d_184_0, h4, bI, if_true, d_184_57, d_184_58, h2 (s.1, s.2.1, z) rfl, d_184_83, r172_2, n10, if_false]) rfl n20
    · rcases wi79 (xs := xs) (nx := nx) a3 0 100 with ⟨g3, g4, g5⟩ | ⟨g3, g4, g5, g6⟩
      · exact nFail (hF := ⟨⟨k, hk, ea⟩, Or.inr (Or.inr ((g5).elim Or.inl (fun z => Or.inr (Or.inl z))))⟩) (E := 1) (e := 2) (v := 0) hJ (by simp only [d_87_0, h1 s rfl, bR, ntg_self, h3, g3, n10, if_false, bI, if_true, d_87_42, d_87_43, c80_0, bV, hE]) (fun z => by simp only [d_184_0, h4, g4, bI, if_true, d_184_57, d_184_58, h2 (s.1, s.2.1, z) rfl, d_184_83, r172_2, n10, if_false]) rfl n20
      · rcases wi79 (xs := xs) (nx := nx) a4 1 48 with ⟨f3, f4, f5⟩ | ⟨f3, f4, f5, f6⟩
        · exact nFail (hF := ⟨⟨k, hk, ea⟩, Or.inr (Or.inr (Or.inr (Or.inr ((f5).elim Or.inl (fun z => Or.inr (Or.inl z))))))⟩) (E := 1) (e := 2) (v := 0) hJ (by simp only [d_87_0, h1 s rfl, bR, ntg_self, h3, g3, f3, n10, if_false, bI, if_true, d_87_42, d_87_43, c80_0, bV, hE]) (fun z => by simp only [d_184_0, h4, g4, f4, bI, if_true, d_184_57, d_184_58, h2 (s.1, s.2.1, z) rfl, d_184_83, r172_2, n10, if_false]) rfl n20
        · rcases wi79 (xs := xs) (nx := nx) a5 1 20 with ⟨k3, k4, k5⟩ | ⟨k3, k4, k5, k6⟩
          · exact nFail (hF := ⟨⟨k, hk, ea⟩, Or.inr (Or.inr (Or.inr (Or.inr (Or.inr (Or.inr ((k5).elim Or.inl (fun z => Or.inr (Or.inl z))))))))⟩) (E := 1) (e := 2) (v := 0) hJ (by simp only [d_87_0, h1 s rfl, bR, ntg_self, h3, g3, f3, k3, n10, if_false, bI, if_true, d_87_72, d_87_73, d_87_43, c80_1, c80_0, bV, hE]) (fun z => by simp only [d_184_0, h4, g4, f4, k4, bI, if_true, d_184_57, d_184_58, h2 (s.1, s.2.1, z) rfl, d_184_83, r172_2, n10, if_false]) rfl n20
          · rcases wi79 (xs := xs) (nx := nx) a6 0 24 with ⟨j3, j4, j5⟩ | ⟨j3, j4, j5, j6⟩
            · exact nFail (hF := ⟨⟨k, hk, ea⟩, Or.inr (Or.inr (Or.inr (Or.inr (Or.inr (Or.inr (Or.inr (Or.inr (j5))))))))⟩) (E := 1) (e := 2) (v := 0) hJ (by simp only [d_87_0, h1 s rfl, bR, ntg_self, h3, g3, f3, k3, j3, n10, if_false, bI, if_true, d_87_72, d_87_73, d_87_43, c80_1, c80_0, bV, hE]) (fun z => by simp only [d_184_0, h4, g4, f4, k4, j4, bI, if_true, d_184_57, d_184_58, h2 (s.1, s.2.1, z) rfl, d_184_83, r172_2, n10, if_false]) rfl n20
            · have hA := hJ.2.2.2.1
              have hk9 := hA.1 k hk
              have hvn : nIn (100 * s.2.1 39 k + s.2.1 41 k) 101 3000 := by
                obtain ⟨x, x1, x2, x3⟩ := hk9.2.2.2.2.1.2
                obtain ⟨y, y1, y2, y3⟩ := hk9.2.2.2.2.2.2.1.2
                refine ⟨100 * x + y, by omega, by omega, ?_⟩
                rw [x3, y3]
                show iN 100 * iN x + iN y = _
                rw [show iN 100 * iN x = iN (100 * x) from (Int32.ofNat_mul 100 x).symm]
                exact i32_add
              refine nDone (hP := ⟨⟨k, hk, ea⟩, h5, h6, rfl, hvn, by simp (disch := decide) only [uM_ne, uM1_ne]⟩) (v := 100 * s.2.1 39 k + s.2.1 41 k) (c' := uI 23 k 11 a6 (uI 23 k 10 a5 (uI 23 k 9 a4 (uI 23 k 8 a3 (uI 23 k 7 a2 s.1))))) (m' := uM 43 k a6 (uM 42 k a5 (uM 41 k a4 (uM 40 k a3 (uM 39 k a2 (uM 1 76 0 s.2.1)))))) ?_ (by simp only [d_87_0, h1 s rfl, bR, ntg_self, h3, g3, f3, k3, j3, n10, if_false, bI, d_87_73, d_87_43, c80_1, bV, nn_some, hk9.2.2.2.2.1.1, hk9.2.2.2.2.2.2.1.1]) (fun z => ?_) ?_
              · refine nJ_lan (nJ_76 (x := 0) hJ) ?_ (fun l => by simp [fI_at]) (fun t ht => by rw [fI_ne ht, fI_ne ht, fI_ne ht, fI_ne ht, fI_ne ht]) rfl (fun t ht => by rw [uM_ne (by omega), uM_ne (by omega), uM_ne (by omega), uM_ne (by omega), uM_ne (by omega)])
                simp (disch := decide) only [uM_ne, uM1_ne]
                refine ⟨fun a ha => ?_, fun a ha hb => ?_⟩
                · have ha9 := hA.1 a ha
                  simp (disch := decide) only [fI_at, uM_at, uM_ne]
                  by_cases e : a = k
                  · subst e
                    simp
                    exact ⟨ha9.1, ha9.2.1, ha9.2.2.1, ha9.2.2.2.1, nIn_of (by decide) h5 h6, nIn_of (by decide) g5 g6, nIn_of (by decide) f5 f6, nIn_of (by decide) k5 k6, nIn_of (by decide) j5 j6, ha9.2.2.2.2.2.2.2.2.2⟩
                  · simp only [e, false_and, if_false]
                    exact ha9
                · have hb9 := hA.2 a ha hb
                  simp (disch := decide) only [uM_at, uM_ne, show ¬ a = k by omega, if_false]
                  exact hb9
              · simp (disch := decide) only [d_184_0, h4, g4, f4, k4, j4, bI, n10, if_false, d_184_58, h2 (uI 23 k 11 a6 (uI 23 k 10 a5 (uI 23 k 9 a4 (uI 23 k 8 a3 (uI 23 k 7 a2 s.1)))), s.2.1, z) rfl, d_184_83, r172_0, if_true, hin, en, uM_ne]
              · rw [uM_ne (by decide), uM_ne (by decide), uM_ne (by decide), uM_ne (by decide), uM_ne (by decide)]
                exact uM_self
end OPC
end KAP
