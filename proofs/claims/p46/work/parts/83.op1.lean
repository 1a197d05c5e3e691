/-! ===== hire, fail ===== -/
section KAP
variable {κ : kP}
section OPB
variable {xs : Nat → Int32} {nx : Nat}
theorem iN_lt {a b : Nat} (ha : a < 2 ^ 31) (hb : b < 2 ^ 31) : iN a < iN b ↔ a < b := by
  rw [Int32.lt_iff_toInt_lt, Int32.toInt_ofNat_of_lt ha, Int32.toInt_ofNat_of_lt hb]
  omega
theorem iN_inj {a b : Nat} (ha : a < 2 ^ 31) (hb : b < 2 ^ 31) : iN a = iN b ↔ a = b := by
  constructor
  · intro h
    have := congrArg Int32.toInt h
    rw [Int32.toInt_ofNat_of_lt ha, Int32.toInt_ofNat_of_lt hb] at this
    omega
  · intro h; rw [h]
theorem iN_subI {a b : Nat} (ha : a < 2 ^ 30) (hb : b < 2 ^ 30) : (iN a - iN b).toInt = (a : Int) - b := by
  rw [Int32.toInt_sub, Int32.toInt_ofNat_of_lt (by omega), Int32.toInt_ofNat_of_lt (by omega), Int.bmod_def]
  split <;> omega
theorem sub_pos {a b : Nat} (ha : a < 2 ^ 30) (hb : b < 2 ^ 30) : (0 : Int32) < iN a - iN b ↔ b < a := by
  rw [Int32.lt_iff_toInt_lt, iN_subI ha hb, show (0 : Int32).toInt = 0 from rfl]
  omega
theorem nJ_ck {i : Nat} {c : nC} {m : nM} (h : nJ κ i c m) : fI c 0 0 9 = m 1 0 ∧ nIn (m 1 0) 0 600 := by
  obtain ⟨h1, t, O, h2, h3, h4, h5⟩ := h.2.1
  exact ⟨h1, t, Nat.zero_le _, h2, h3⟩
/-- an update of a depot -/
theorem nJ_dep {i : Nat} {c c' : nC} {m m' : nM} (h : nJ κ i c m) (hD : gDep (fI c' 21) (fP c 4) (fX c 23) (fN c 23) (i / 100000) (m 1 0) (m' 29) (m' 30) (m' 31) (m' 32) (m' 33) (m 34))
    (hc : ∀ t, t ≠ 21 → fI c' t = fI c t) (hc2 : c'.2 = c.2) (hm : ∀ t, (t < 29 ∨ 33 < t) → m' t = m t) : nJ κ i c' m' := by
  have e1 : fX c' = fX c := congrArg (·.1) hc2
  have e2 : fP c' = fP c := congrArg (·.2.1) hc2
  have e3 : fQ c' = fQ c := congrArg (·.2.2.1) hc2
  have e4 : fL c' = fL c := congrArg (·.2.2.2.1) hc2
  have e5 : fN c' = fN c := congrArg (·.2.2.2.2) hc2
  unfold nJ at h ⊢
  simp (disch := decide) only [hc, hm, e1, e2, e3, e4, e5]
  exact ⟨h.1, h.2.1, hD, h.2.2.2⟩
theorem c80_c (s : nS) (x : Int32) : R1 xs nx 80 0 [some (vI x)] [] s = if x = 0 then some (.inr 1, (s.1, s.2.1, s.2.2.1 + 1, s.2.2.2)) else some (.inl none, s) := d_80_0 x s
/-- hire -/
abbrev zP1 (κ : kP) (a1 a2 a3 : Int32) (c : nC) (m : nM) (κ' : kP) (c' : nC) (m' : nM) (v : Int32) : Prop := (∃ d, d < 5 ∧ a1 = iN d) ∧ κ' = κ ∧ nIn v 0 1000 ∧ m' 1 0 = m 1 0
abbrev zF1 (a1 a2 a3 : Int32) (c : nC) (m : nM) (E : Nat) : Prop := f3 (¬ (∃ d, d < 5 ∧ a1 = iN d)) (a2 < 1 ∨ 20 < a2 ∨ a3 < 1 ∨ 48 < a3) False E
theorem op1 : ∀ i, i < 512 → ∀ (a1 a2 a3 : Int32), nDoes κ (zP1 κ a1 a2 a3) (zF1 a1 a2 a3) i [(0, 1), (1, 2)] (fun s => R1 xs nx 82 0 [some (vR 0 (some 0)), some (vI a1), some (vI a2), some (vI a3), none, none] [] s) (fun s => R1 xs nx 181 0 [some (vR 1 (some 0)), some (vI a1), some (vI a2), some (vI a3), none] [] s) := by
  intro i hi a1 a2 a3 s hJ
  rcases dep78 (xs := xs) (nx := nx) a1 with ⟨h1, h2⟩ | ⟨d, hd, rfl, h1, h2⟩
  · exact nFail (hF := nd78 (h1 s)) (E := 0) (e := 1) (v := 0) hJ (by simp only [d_82_0, h1, bR, hE]) (fun z => by simp only [d_181_0, h2, bI, if_true, d_181_37, r172_1, n10, if_false]) rfl n10
  · rcases wi79 (xs := xs) (nx := nx) a2 1 20 with ⟨h3, h4, h5⟩ | ⟨h3, h4, h5, h6⟩
    · exact nFail (hF := h5.elim Or.inl (fun z => Or.inr (Or.inl z))) (E := 1) (e := 2) (v := 0) hJ (by simp only [d_82_0, h1, bR, ntg_self, h3, bI, if_true, d_82_31, d_82_32, c80_0, bV, hE]) (fun z => by simp only [d_181_0, h2, n10, bI, if_false, h4, if_true, d_181_36, d_181_37, r172_2]) rfl n20
    · rcases wi79 (xs := xs) (nx := nx) a3 1 48 with ⟨g3, g4, g5⟩ | ⟨g3, g4, g5, g6⟩
      · exact nFail (hF := Or.inr (Or.inr g5)) (E := 1) (e := 2) (v := 0) hJ (by simp only [d_82_0, h1, bR, ntg_self, h3, bI, n10, if_false, g3, if_true, d_82_31, d_82_32, c80_0, bV, hE]) (fun z => by simp only [d_181_0, h2, n10, bI, if_false, h4, g4, if_true, d_181_36, d_181_37, r172_2]) rfl n20
      · obtain ⟨ck, t, -, ht, et⟩ := nJ_ck hJ
        have hD := hJ.2.2.1
        obtain ⟨-, -, ⟨⟨u, -, hu, eu⟩, e31⟩, -⟩ := hD d hd
        have e31 := e31 (by omega)
        obtain ⟨h, hh1, hh, eh⟩ := nIn_of (x := a3) (a := 1) (b := 48) (by decide) g5 g6
        have hv : (if (0 : Int32) < fI s.1 21 d 5 - fI s.1 0 0 9 then fI s.1 21 d 5 - fI s.1 0 0 9 else 0) = s.2.1 31 d := by
          rw [e31, ck, et, eu]
          by_cases hc : t < u
          · rw [if_pos ((sub_pos (by omega) (by omega)).mpr hc), if_pos ((iN_lt (by omega) (by omega)).mpr hc)]
          · rw [if_neg (fun z => hc ((sub_pos (by omega) (by omega)).mp z)), if_neg (fun z => hc ((iN_lt (by omega) (by omega)).mp z))]
        have hvn : nIn (s.2.1 31 d) 0 1000 := by
          rw [e31, et, eu]
          by_cases hc : t < u
          · rw [if_pos ((iN_lt (by omega) (by omega)).mpr hc), show iN u - iN t = iN (u - t) from i32_sub (by omega) (by omega)]
            exact ⟨u - t, Nat.zero_le _, by omega, rfl⟩
          · rw [if_neg (fun z => hc ((iN_lt (by omega) (by omega)).mp z))]
            exact ⟨0, Nat.zero_le _, by omega, rfl⟩
        refine nDone (hP := ⟨⟨d, hd, rfl⟩, rfl, hvn, by simp (disch := decide) only [uM_ne, uM1_ne]⟩) (v := s.2.1 31 d) (c' := uI 21 d 5 (fI s.1 0 0 9 + a3) (uI 21 d 4 a2 s.1)) (m' := uM 31 d a3 (uM 30 d a2 (uM 1 76 0 s.2.1))) ?_ (by simp only [d_82_0, h1, bR, ntg_self, h3, bI, n10, if_false, g3, d_82_32, c80_1, bV, nn_some, hv]) (fun z => ?_) ?_
        · refine nJ_dep (nJ_76 (x := 0) hJ) ?_ (fun t ht => by rw [fI_ne ht, fI_ne ht]) rfl (fun t ht => by rw [uM_ne (by omega), uM_ne (by omega)])
          simp (disch := decide) only [uM_ne, uM1_ne]
          intro d' hd'
          have hd9 := hD d' hd'
          simp only [fI_at, uM_at]
          by_cases e : d' = d
          · subst e
            simp only [true_and, if_true, show ¬ (3 : Nat) = 5 by decide, show ¬ (3 : Nat) = 4 by decide, show ¬ (4 : Nat) = 5 by decide, show ¬ (5 : Nat) = 4 by decide, show ¬ (6 : Nat) = 5 by decide, show ¬ (6 : Nat) = 4 by decide, show ¬ (7 : Nat) = 5 by decide, show ¬ (7 : Nat) = 4 by decide, if_false]
            refine ⟨hd9.1, ?_, ?_, hd9.2.2.2⟩
            · obtain ⟨n, -, q1, q2⟩ := nIn_of (x := a2) (a := 1) (b := 20) (by decide) h5 h6
              exact ⟨n, Nat.zero_le _, q1, q2⟩
            · rw [ck, et, eh, show iN t + iN h = iN (t + h) from i32_add]
              refine ⟨⟨t + h, Nat.zero_le _, by omega, rfl⟩, fun _ => ?_⟩
              rw [if_pos ((iN_lt (by omega) (by omega)).mpr (by omega)), show iN (t + h) - iN t = iN (t + h - t) from i32_sub (by omega) (by omega), Nat.add_sub_cancel_left]
          · simp only [e, false_and, if_false]
            exact hd9
        · simp only [d_181_0, h2, n10, bI, if_false, h4, g4, d_181_37, r172_0, if_true, iN_in hd (show 5 < 100000 by decide), i32_nat (show d < 2 ^ 31 by omega)]
          rw [uM_ne (by decide)]
        · rw [uM_ne (by decide), uM_ne (by decide)]
          exact uM_self
/-- fail -/
abbrev zP2 (κ : kP) (a1 a2 : Int32) (c : nC) (m : nM) (κ' : kP) (c' : nC) (m' : nM) (v : Int32) : Prop := (∃ d, d < 5 ∧ a1 = iN d) ∧ κ' = κ ∧ nIn v 0 1000 ∧ m' 1 0 = m 1 0
abbrev zF2 (a1 a2 : Int32) (c : nC) (m : nM) (E : Nat) : Prop := f3 (¬ (∃ d, d < 5 ∧ a1 = iN d)) (a2 < 0 ∨ 20 < a2) False E
theorem op2 : ∀ i, i < 512 → ∀ (a1 a2 a3 : Int32), (a3 = 0 ∨ a3 = 1) → nDoes κ (zP2 κ a1 a2) (zF2 a1 a2) i [(0, 1), (1, 2)] (fun s => R1 xs nx 83 0 [some (vR 0 (some 0)), some (vI a1), some (vI a2), some (vI a3), none, none] [] s) (fun s => R1 xs nx 182 0 [some (vR 1 (some 0)), some (vI a1), some (vI a2), some (vI a3), none] [] s) := by
  intro i hi a1 a2 a3 hb s hJ
  rcases dep78 (xs := xs) (nx := nx) a1 with ⟨h1, h2⟩ | ⟨d, hd, rfl, h1, h2⟩
  · exact nFail (hF := nd78 (h1 s)) (E := 0) (e := 1) (v := 0) hJ (by simp only [d_83_0, h1, bR, hE]) (fun z => by simp only [d_182_0, h2, bI, if_true, d_182_27, r172_1, n10, if_false]) rfl n10
  · rcases wi79 (xs := xs) (nx := nx) a2 0 20 with ⟨h3, h4, h5⟩ | ⟨h3, h4, h5, h6⟩
    · exact nFail (hF := h5) (E := 1) (e := 2) (v := 0) hJ (by simp only [d_83_0, h1, bR, ntg_self, h3, bI, c80_0, bV, hE]) (fun z => by simp only [d_182_0, h2, n10, bI, if_false, h4, if_true, d_182_27, r172_2]) rfl n20
    · have hD := hJ.2.2.1
      have hdd := hD d hd
      have hin := nIn_of (x := a2) (a := 0) (b := 20) (by decide) h5 h6
      rcases hb with rfl | rfl
      · refine nDone (hP := ⟨⟨d, hd, rfl⟩, rfl, nIn_w hdd.2.2.2.1.2 (by decide), by simp (disch := decide) only [uM_ne, uM1_ne]⟩) (v := s.2.1 32 d) (c' := uI 21 d 6 a2 s.1) (m' := uM 32 d a2 (uM 33 d (s.2.1 33 d) (uM 1 76 0 s.2.1))) ?_ (by simp only [d_83_0, h1, bR, ntg_self, h3, bI, c80_1, bV, nn_some, if_true, d_83_34, hdd.2.2.2.1.1]) (fun z => ?_) ?_
        · refine nJ_dep (nJ_76 (x := 0) hJ) ?_ (fun t ht => by rw [fI_ne ht]) rfl (fun t ht => by rw [uM_ne (by omega), uM_ne (by omega)])
          simp (disch := decide) only [uM_ne, uM1_ne]
          intro d' hd'
          have hd9 := hD d' hd'
          simp only [fI_at, uM_at, uM_ne (show (33 : Nat) ≠ 1 by decide)]
          by_cases e : d' = d
          · subst e
            simp only [true_and, if_true, show ¬ (3 : Nat) = 6 by decide, show ¬ (4 : Nat) = 6 by decide, show ¬ (5 : Nat) = 6 by decide, show ¬ (7 : Nat) = 6 by decide, if_false]
            exact ⟨hd9.1, hd9.2.1, hd9.2.2.1, hin, hd9.2.2.2.2⟩
          · simp only [e, false_and, if_false]
            exact hd9
        · simp only [d_182_0, h2, n10, bI, if_false, h4, d_182_27, r172_0, if_true, iN_in hd (show 5 < 100000 by decide), i32_nat (show d < 2 ^ 31 by omega), d_182_54, d_182_75]
          rw [uM_ne (by decide), uM_ne (by decide)]
        · rw [uM_ne (by decide), uM_ne (by decide)]
          exact uM_self
      · refine nDone (hP := ⟨⟨d, hd, rfl⟩, rfl, nIn_w hdd.2.2.2.2.1.2 (by decide), by simp (disch := decide) only [uM_ne, uM1_ne]⟩) (v := s.2.1 33 d) (c' := uI 21 d 7 a2 s.1) (m' := uM 32 d (s.2.1 32 d) (uM 33 d a2 (uM 1 76 0 s.2.1))) ?_ (by simp only [d_83_0, h1, bR, ntg_self, h3, bI, c80_1, bV, nn_some, n10, if_false, d_83_34, hdd.2.2.2.2.1.1]) (fun z => ?_) ?_
        · refine nJ_dep (nJ_76 (x := 0) hJ) ?_ (fun t ht => by rw [fI_ne ht]) rfl (fun t ht => by rw [uM_ne (by omega), uM_ne (by omega)])
          simp (disch := decide) only [uM_ne, uM1_ne]
          intro d' hd'
          have hd9 := hD d' hd'
          simp only [fI_at, uM_at, uM_ne (show (32 : Nat) ≠ 33 by decide), uM_ne (show (32 : Nat) ≠ 1 by decide)]
          by_cases e : d' = d
          · subst e
            simp only [true_and, if_true, show ¬ (3 : Nat) = 7 by decide, show ¬ (4 : Nat) = 7 by decide, show ¬ (5 : Nat) = 7 by decide, show ¬ (6 : Nat) = 7 by decide, if_false]
            exact ⟨hd9.1, hd9.2.1, hd9.2.2.1, hd9.2.2.2.1, hin, hd9.2.2.2.2.2⟩
          · simp only [e, false_and, if_false]
            exact hd9
        · simp only [d_182_0, h2, n10, bI, if_false, h4, d_182_27, r172_0, if_true, iN_in hd (show 5 < 100000 by decide), i32_nat (show d < 2 ^ 31 by omega), d_182_54, d_182_75]
          rw [uM_ne (by decide), uM_ne (by decide)]
        · rw [uM_ne (by decide), uM_ne (by decide)]
          exact uM_self
end OPB
end KAP
