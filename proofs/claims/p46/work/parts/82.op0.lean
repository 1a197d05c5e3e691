/-! ===== sorts, hire, fail ===== -/
section KAP
variable {κ : kP}
section OPA
variable {xs : Nat → Int32} {nx : Nat}
theorem nRng0 {x : Int32} (b : Nat) (hb : b < 100000) : x < 0 ∨ (¬ x < 0 ∧ iN b < x) ∨ (¬ x < 0 ∧ ¬ iN b < x ∧ ∃ n, n ≤ b ∧ x = iN n) := by
  rcases nRng (x := x) 0 b ⟨Nat.zero_le b, hb⟩ with h | h | ⟨h1, h2, n, -, h3, h4⟩
  · exact Or.inl h
  · exact Or.inr (Or.inl h)
  · exact Or.inr (Or.inr ⟨h1, h2, n, h3, h4⟩)
theorem iN_lt5 {d : Nat} (h : d ≤ 4) : iN d < (5 : Int32) := by
  rw [Int32.lt_iff_toInt_lt, Int32.toInt_ofNat_of_lt (by omega), show (5 : Int32).toInt = 5 from rfl]
  omega
theorem nlt5 {x : Int32} (h : (4 : Int32) < x) : ¬ x < (5 : Int32) := by
  rw [Int32.lt_iff_toInt_lt, show (4 : Int32).toInt = 4 from rfl] at h
  rw [Int32.lt_iff_toInt_lt, show (5 : Int32).toInt = 5 from rfl]
  omega
/-- a depot's number: below, above, or there -/
theorem dep78 (a : Int32) : ((∀ s, R1 xs nx 78 0 [some (vR 0 (some 0)), some (vI a)] [] s = some (.inr 0, (s.1, s.2.1, s.2.2.1 + 1, s.2.2.2))) ∧ ∀ s, R1 xs nx 175 0 [some (vI a)] [] s = some (.inl (some (vI 0)), s)) ∨
    ∃ d, d < 5 ∧ a = iN d ∧ (∀ s, R1 xs nx 78 0 [some (vR 0 (some 0)), some (vI a)] [] s = some (.inl (some (vR 21 (some d))), s)) ∧ ∀ s, R1 xs nx 175 0 [some (vI a)] [] s = some (.inl (some (vI 1)), s) := by
  rcases nRng0 (x := a) 4 (by decide) with h | ⟨h, h'⟩ | ⟨h, h', d, hd, rfl⟩
  · refine Or.inl ⟨fun s => ?_, fun s => ?_⟩
    · rw [d_78_0, if_pos h]
    · rw [d_175_0, d_174_0, if_pos h]
      simp only [bI, true_or, if_true]
  · refine Or.inl ⟨fun s => ?_, fun s => ?_⟩
    · rw [d_78_0, if_neg h, if_neg (nlt5 h')]
    · rw [d_175_0, d_174_0, if_neg h, if_pos (show (4 : Int32) < a from h')]
      simp only [bI, true_or, if_true]
  · refine Or.inr ⟨d, by omega, rfl, fun s => ?_, fun s => ?_⟩
    · rw [d_78_0, if_neg h, if_pos (iN_lt5 hd), if_pos (iN_in (by omega) (by decide)), i32_nat (by omega)]
    · rw [d_175_0, d_174_0, if_neg h, if_neg (show ¬ (4 : Int32) < iN d from h')]
      simp only [bI, or_true, if_true]
theorem wi79 (x a b : Int32) : ((∀ s, R1 xs nx 79 0 [some (vI x), some (vI a), some (vI b)] [] s = some (.inl (some (vI 0)), s)) ∧ (∀ s, R1 xs nx 174 0 [some (vI x), some (vI a), some (vI b)] [] s = some (.inl (some (vI 0)), s)) ∧ (x < a ∨ b < x)) ∨
    ((∀ s, R1 xs nx 79 0 [some (vI x), some (vI a), some (vI b)] [] s = some (.inl (some (vI 1)), s)) ∧ (∀ s, R1 xs nx 174 0 [some (vI x), some (vI a), some (vI b)] [] s = some (.inl (some (vI 1)), s)) ∧ ¬ x < a ∧ ¬ b < x) := by
  by_cases h1 : x < a
  · exact Or.inl ⟨fun s => by rw [d_79_0, if_pos h1], fun s => by rw [d_174_0, if_pos h1], Or.inl h1⟩
  · by_cases h2 : b < x
    · exact Or.inl ⟨fun s => by rw [d_79_0, if_neg h1, if_pos h2], fun s => by rw [d_174_0, if_neg h1, if_pos h2], Or.inr h2⟩
    · exact Or.inr ⟨fun s => by rw [d_79_0, if_neg h1, if_neg h2], fun s => by rw [d_174_0, if_neg h1, if_neg h2], h1, h2⟩
theorem nIn_of {x : Int32} {a b : Nat} (hb : a ≤ b ∧ b < 100000) (h1 : ¬ x < iN a) (h2 : ¬ iN b < x) : nIn x a b := by
  rcases nRng (x := x) a b hb with h | ⟨-, h⟩ | ⟨-, -, n, h3, h4, h5⟩
  · exact absurd h h1
  · exact absurd h h2
  · exact ⟨n, h3, h4, h5⟩
theorem nIn_w {x : Int32} {a b b' : Nat} (h : nIn x a b) (hb : b ≤ b') : nIn x a b' := by
  obtain ⟨n, h1, h2, h3⟩ := h
  exact ⟨n, h1, by omega, h3⟩
theorem nd78 {a : Int32} {s s' : nS} (h : R1 xs nx 78 0 [some (vR 0 (some 0)), some (vI a)] [] s = some (.inr 0, s')) : ¬ ∃ d, d < 5 ∧ a = iN d := by
  rintro ⟨d, hd, rfl⟩
  rw [d_78_0, if_neg (show ¬ iN d < 0 from i32_pos (by omega)), if_pos (iN_lt5 (by omega)), if_pos (iN_in hd (by decide)), i32_nat (by omega)] at h
  cases h
theorem n10 : ¬ (1 : Int32) = 0 := by decide
theorem n20 : ¬ (2 : Int32) = 0 := by decide
theorem n30 : ¬ (3 : Int32) = 0 := by decide
theorem l01 : (0 : Int32) < 1 := by decide
theorem l02 : (0 : Int32) < 2 := by decide
theorem l03 : (0 : Int32) < 3 := by decide
theorem l00 : ¬ (0 : Int32) < 0 := by decide
theorem c80_0 (s : nS) : R1 xs nx 80 0 [some (vI 0)] [] s = some (.inr 1, (s.1, s.2.1, s.2.2.1 + 1, s.2.2.2)) := by rw [d_80_0, if_pos rfl]
theorem c80_1 (s : nS) : R1 xs nx 80 0 [some (vI 1)] [] s = some (.inl none, s) := by rw [d_80_0, if_neg n10]
theorem r172_0 (s : nS) : R1 xs nx 172 0 [some (vR 1 (some 0)), some (vI 0)] [] s = some (.inl (some (vI 0)), (s.1, uM 1 76 0 s.2.1, s.2.2)) := by rw [d_172_0, if_neg l00]
theorem r172_1 (s : nS) : R1 xs nx 172 0 [some (vR 1 (some 0)), some (vI 1)] [] s = some (.inl (some (vI 1)), (s.1, uM 1 76 1 s.2.1, s.2.2)) := by rw [d_172_0, if_pos l01]
theorem r172_2 (s : nS) : R1 xs nx 172 0 [some (vR 1 (some 0)), some (vI 2)] [] s = some (.inl (some (vI 1)), (s.1, uM 1 76 2 s.2.1, s.2.2)) := by rw [d_172_0, if_pos l02]
theorem r172_3 (s : nS) : R1 xs nx 172 0 [some (vR 1 (some 0)), some (vI 3)] [] s = some (.inl (some (vI 1)), (s.1, uM 1 76 3 s.2.1, s.2.2)) := by rw [d_172_0, if_pos l03]
theorem uM_self {x : Int32} {m : nM} : uM 1 76 x m 1 76 = x := by simp [uM, up2]
theorem nn_some {β : Type} {x : Nat} {f : Nat → Option β} : nn (some x) f = f x := rfl
theorem ntg_self {β : Type} {t : Nat} {x : Option β} : ntg t t x = x := by unfold ntg; rw [Nat.beq_refl]; rfl
/-- what is refused changes nothing -/
theorem nFail {P : nC → nM → kP → nC → nM → Int32 → Prop} {F : nC → nM → Nat → Prop} {i : Nat} {hs : List (Nat × Int32)} {c m : nS → Option nOut} {s : nS} {E : Nat} {e v : Int32} (hJ : nJ κ i s.1 s.2.1) (hc : c s = some (.inr E, (s.1, s.2.1, s.2.2.1 + 1, s.2.2.2))) (hm : ∀ z, m (s.1, s.2.1, z) = some (.inl (some (vI v)), (s.1, uM 1 76 e s.2.1, z))) (he : nHl hs E = some e) (h0 : e ≠ 0) (hF : F s.1 s.2.1 E := by trivial) (hi : i % 100000 < 99999 := by omega) :
    ∃ (κ' : kP) (c' : nC) (m' : nM) (v : Int32), nJ κ' (i + 1) c' m' ∧ (∀ z, m (c', s.2.1, z) = some (.inl (some (vI v)), (c', m', z))) ∧
  ((c s = some (.inl (some (vI v)), (c', s.2)) ∧ m' 1 76 = 0 ∧ P s.1 s.2.1 κ' c' m' v) ∨ ∃ E, c s = some (.inr E, (c', s.2.1, s.2.2.1 + 1, s.2.2.2)) ∧ nHl hs E = some (m' 1 76) ∧ m' 1 76 ≠ 0 ∧ c' = s.1 ∧ κ' = κ ∧ F s.1 s.2.1 E) :=
  ⟨κ, s.1, uM 1 76 e s.2.1, v, nJ_76 (nJ_up hJ), hm, Or.inr ⟨E, hc, by rw [uM_self]; exact he, by rw [uM_self]; exact h0, rfl, rfl, hF⟩⟩
/-- what is done -/
theorem nDoneK (κ' : kP) {P : nC → nM → kP → nC → nM → Int32 → Prop} {F : nC → nM → Nat → Prop} {i : Nat} {hs : List (Nat × Int32)} {c m : nS → Option nOut} {s : nS} {v : Int32} {c' : nC} {m' : nM} (hJ : nJ κ' i c' m') (hc : c s = some (.inl (some (vI v)), (c', s.2))) (hm : ∀ z, m (c', s.2.1, z) = some (.inl (some (vI v)), (c', m', z))) (he : m' 1 76 = 0) (hP : P s.1 s.2.1 κ' c' m' v := by trivial) (hi : i % 100000 < 99999 := by omega) :
    ∃ (κ' : kP) (c' : nC) (m' : nM) (v : Int32), nJ κ' (i + 1) c' m' ∧ (∀ z, m (c', s.2.1, z) = some (.inl (some (vI v)), (c', m', z))) ∧
  ((c s = some (.inl (some (vI v)), (c', s.2)) ∧ m' 1 76 = 0 ∧ P s.1 s.2.1 κ' c' m' v) ∨ ∃ E, c s = some (.inr E, (c', s.2.1, s.2.2.1 + 1, s.2.2.2)) ∧ nHl hs E = some (m' 1 76) ∧ m' 1 76 ≠ 0 ∧ c' = s.1 ∧ κ' = κ ∧ F s.1 s.2.1 E) :=
  ⟨κ', c', m', v, nJ_up hJ, hm, Or.inl ⟨hc, he, hP⟩⟩
theorem nDone {P : nC → nM → kP → nC → nM → Int32 → Prop} {F : nC → nM → Nat → Prop} {i : Nat} {hs : List (Nat × Int32)} {c m : nS → Option nOut} {s : nS} {v : Int32} {c' : nC} {m' : nM} (hJ : nJ κ i c' m') (hc : c s = some (.inl (some (vI v)), (c', s.2))) (hm : ∀ z, m (c', s.2.1, z) = some (.inl (some (vI v)), (c', m', z))) (he : m' 1 76 = 0) (hP : P s.1 s.2.1 κ c' m' v := by trivial) (hi : i % 100000 < 99999 := by omega) :
    ∃ (κ' : kP) (c' : nC) (m' : nM) (v : Int32), nJ κ' (i + 1) c' m' ∧ (∀ z, m (c', s.2.1, z) = some (.inl (some (vI v)), (c', m', z))) ∧
  ((c s = some (.inl (some (vI v)), (c', s.2)) ∧ m' 1 76 = 0 ∧ P s.1 s.2.1 κ' c' m' v) ∨ ∃ E, c s = some (.inr E, (c', s.2.1, s.2.2.1 + 1, s.2.2.2)) ∧ nHl hs E = some (m' 1 76) ∧ m' 1 76 ≠ 0 ∧ c' = s.1 ∧ κ' = κ ∧ F s.1 s.2.1 E) :=
  ⟨κ, c', m', v, nJ_up hJ, hm, Or.inl ⟨hc, he, hP⟩⟩
/-- sorts -/
abbrev zP0 (κ : kP) (a1 a2 : Int32) (c : nC) (m : nM) (κ' : kP) (c' : nC) (m' : nM) (v : Int32) : Prop := (∃ d, d < 5 ∧ a1 = iN d) ∧ κ' = κ ∧ nIn v 0 1000 ∧ m' 1 0 = m 1 0
abbrev zF0 (a1 a2 : Int32) (c : nC) (m : nM) (E : Nat) : Prop := f3 (¬ (∃ d, d < 5 ∧ a1 = iN d)) (a2 < 0 ∨ 40 < a2) False E
theorem op0 : ∀ i, i < 512 → ∀ (a1 a2 : Int32), nDoes κ (zP0 κ a1 a2) (zF0 a1 a2) i [(0, 1), (1, 2)] (fun s => R1 xs nx 81 0 [some (vR 0 (some 0)), some (vI a1), some (vI a2), none, none] [] s) (fun s => R1 xs nx 180 0 [some (vR 1 (some 0)), some (vI a1), some (vI a2), none] [] s) := by
  intro i hi a1 a2 s hJ
  rcases dep78 (xs := xs) (nx := nx) a1 with ⟨h1, h2⟩ | ⟨d, hd, rfl, h1, h2⟩
  · exact nFail (hF := nd78 (h1 s)) (E := 0) (e := 1) (v := 0) hJ (by simp only [d_81_0, h1, bR, hE]) (fun z => by simp only [d_180_0, h2, bI, if_true, d_180_27, r172_1, n10, if_false]) rfl n10
  · rcases wi79 (xs := xs) (nx := nx) a2 0 40 with ⟨h3, h4, h5⟩ | ⟨h3, h4, h5, h6⟩
    · exact nFail (hF := h5) (E := 1) (e := 2) (v := 0) hJ (by simp only [d_81_0, h1, bR, ntg_self, h3, bI, c80_0, bV, hE]) (fun z => by simp only [d_180_0, h2, n10, bI, if_false, h4, if_true, d_180_27, r172_2, n10, if_false]) rfl n20
    · refine nDone (hP := ⟨⟨d, hd, rfl⟩, rfl, by rw [(hJ.2.2.1 d hd).1.1]; exact nIn_w (hJ.2.2.1 d hd).1.2 (by decide), by simp (disch := decide) only [uM_ne, uM1_ne]⟩) (v := fI s.1 21 d 3) (c' := uI 21 d 3 a2 s.1) (m' := uM 29 d a2 (uM 1 76 0 s.2.1)) ?_ (by simp only [d_81_0, h1, bR, ntg_self, h3, bI, c80_1, bV, nn_some]) (fun z => ?_) ?_
      · have hD := hJ.2.2.1
        unfold nJ at hJ ⊢
        simp (disch := decide) only [uM_ne, uM1_ne, fI_ne, fX_uI, fP_uI, fQ_uI, fL_uI, fN_uI]
        refine ⟨hJ.1, hJ.2.1, ?_, hJ.2.2.2⟩
        intro d' hd'
        have := hD d' hd'
        simp only [fI_at, uM_at]
        by_cases e : d' = d
        · subst e
          simp only [true_and, if_true, show ¬ (4 : Nat) = 3 by decide, show ¬ (5 : Nat) = 3 by decide, show ¬ (6 : Nat) = 3 by decide, show ¬ (7 : Nat) = 3 by decide, and_false, if_false]
          exact ⟨nIn_of (a := 0) (b := 40) (by decide) h5 h6, this.2⟩
        · simp only [e, false_and, if_false]
          exact this
      · have e := (hJ.2.2.1 d hd).1.1
        simp only [d_180_0, h2, n10, bI, if_false, h4, d_180_27, r172_0, if_true, iN_in hd (show 5 < 100000 by decide), i32_nat (show d < 2 ^ 31 by omega)]
        rw [uM_ne (by decide), e]
      · rw [uM_ne (by decide)]
        exact uM_self
end OPA
end KAP
