/-! ===== part: made by wip/whole/gen2/mk92.py ===== -/
section KAP
variable {κ : kP}
section OPK
variable {xs : Nat → Int32} {nx : Nat}
/-- where a parcel goes -/
def tgD (c : nC) (m : nM) (k : Nat) : Nat := fX c 24 (if m 63 k = 0 then fX c 26 k 10 else fX c 26 k 1) 0
/-- the target of a parcel -/
theorem tgt64 {i : Nat} {c : nC} {m : nM} (hJ : nJ κ i c m) {k : Nat} (hk : k < fN c 26) : ∃ D, D < 5 ∧ D = fX c 24 (if m 63 k = 0 then fX c 26 k 10 else fX c 26 k 1) 0 ∧ (∀ z, R1 xs nx 64 0 [some (vR 26 (some k))] [] (c, z) = some (.inl (some (vR 21 (some D))), (c, z))) ∧
    ∀ c9 m9 z, m9 63 = m 63 → m9 52 = m 52 → m9 51 = m 51 → m9 45 = m 45 → R1 xs nx 202 0 [some (vR 1 (some 0)), some (vI (iN k))] [] (c9, m9, z) = some (.inl (some (vI (iN D))), (c9, m9, z)) := by
  have hP := hJ.2.2.2.2.2.1 k hk
  have hA := hJ.2.2.2.2.1.1
  have hN := hJ.1.2.1.1
  have hK := hJ.1.2.2.1.1
  obtain ⟨s1, s2⟩ := hP.2.2.1
  obtain ⟨r1, r2⟩ := hP.2.2.2.1
  have e16 := hP.2.2.2.2.2.2.2.2.2.2.2.2.2.2.2.2.1.1
  have h40 : mIn (iN k) 40 = true := iN_in40 (by omega)
  by_cases h : m 63 k = 0
  · refine ⟨fX c 24 (fX c 26 k 10) 0, (hA _ r1).1.1, by rw [if_pos h], fun z => ?_, fun c9 m9 z g1 g2 g3 g4 => ?_⟩
    · rw [d_64_0, d_63_0]
      simp only [e16, h, if_true, bR, ntg_self, nn_some]
    · rw [d_202_0, d_201_0]
      simp only [g1, g2, g3, g4, h40, if_true, i32_nat (show k < 2 ^ 31 by omega), h, r2, bI]
      rw [if_pos (mIn_iff.mpr ⟨i32_pos (by omega), by rw [i32_nat (by omega)]; omega⟩), i32_nat (by omega), (hA _ r1).1.2]
  · refine ⟨fX c 24 (fX c 26 k 1) 0, (hA _ s1).1.1, by rw [if_neg h], fun z => ?_, fun c9 m9 z g1 g2 g3 g4 => ?_⟩
    · rw [d_64_0, d_63_0]
      simp only [e16, h, if_false, bR, ntg_self, nn_some]
    · rw [d_202_0, d_201_0]
      simp only [g1, g2, g3, g4, h40, if_true, i32_nat (show k < 2 ^ 31 by omega), h, if_false, s2, bI]
      rw [if_pos (mIn_iff.mpr ⟨i32_pos (by omega), by rw [i32_nat (by omega)]; omega⟩), i32_nat (by omega), (hA _ s1).1.2]
theorem bI_some {x : Int32} {s : nS} {K : Int32 → nS → Option nOut} {h : Nat → nS → Option nOut} : bI (some (.inl (some (vI x)), s)) K h = K x s := rfl
theorem code7 {i : Nat} {c : nC} {m : nM} (hJ : nJ κ i c m) {k : Nat} (hk : k < fN c 26) : fI c 9 k 7 = if m 66 k = 5 then m 72 k else 0 := by
  obtain ⟨y1, y2, y3, y4, y⟩ := hJ.2.2.2.2.2.2.2.1 k hk
  rcases y with ⟨z, d, -, -, -, -, -, -, w⟩ | ⟨z, d, -, -, -, -, -, -, w⟩ | ⟨z, d, -, -, -, -, -, -, w, -⟩ | ⟨z, d, -, -, -, -, -, -, w⟩ | ⟨z, d, -, -, -, -, -, -, w⟩ | ⟨z, d, -, -, -, -, -, -, -, -, w⟩ | ⟨z, d, -, -, -, -, -, -, w, -⟩ | ⟨z, -, -, -, -, -, w, -⟩ | ⟨z, -, -, -, -, -, w, -⟩
  · rw [w, z]; rfl
  · rw [w, z]; rfl
  · rw [w, z]; rfl
  · rw [w, z]; rfl
  · rw [w, z]; rfl
  · rw [z, if_pos rfl]; exact w.1.symm
  · rw [w, z]; rfl
  · rw [w, z]; rfl
  · rw [w, z]; rfl
theorem op27 : ∀ i, i < 512 → ∀ (a1 a2 : Int32), nDoes κ pT pF i [(0, 1), (1, 2)] (fun s => R1 xs nx 146 0 [some (vR 0 (some 0)), some (vI a1), some (vI a2), none] [] s) (fun s => R1 xs nx 242 0 [some (vR 1 (some 0)), some (vI a1), some (vI a2)] [] s) := by
  intro i hi a1 a2 s hJ
  rcases idx97 (xs := xs) (nx := nx) hJ a1 with ⟨h1, h2⟩ | ⟨k, hk, ea, hin, en, h1, h2⟩
  · exact nFail (E := 0) (e := 1) (v := 0) hJ (by simp only [d_146_0, h1 s rfl, bR, hE]) (fun z => by simp only [d_242_0, h2 (s.1, s.2.1, z) rfl, bI, if_true, d_242_28, r172_1, n10, if_false]) rfl n10
  · rcases wi79 (xs := xs) (nx := nx) a2 0 7 with ⟨h3, h4, -⟩ | ⟨h3, h4, h5, h6⟩
    · exact nFail (E := 1) (e := 2) (v := 0) hJ (by simp only [d_146_0, h1 s rfl, bR, ntg_self, h3, bI, c80_0, bV, hE]) (fun z => by simp only [d_242_0, h2 (s.1, s.2.1, z) rfl, h4, bI, if_true, d_242_28, r172_2, n10, if_false]) rfl n20
    · have hP := hJ.2.2.2.2.2.1 k hk
      obtain ⟨⟨u, hu, eu, mu⟩, h9, hs, hr, hz, hx, hv, hc, hd, hpd, hwf, hwt, hpr, htd, hdb, hfr, hrt, hfl⟩ := hP
      by_cases e0 : a2 = (0 : Int32)
      · refine nAsk (v := s.2.1 50 k) hJ ?_ (fun z => ?_)
        · show R1 xs nx 146 0 _ _ s = _
          rw [d_146_0, h1 s rfl]
          show bI (R1 xs nx 79 0 _ _ s) _ hE = _
          rw [h3]
          show bV (R1 xs nx 80 0 _ _ s) _ hE = _
          rw [c80_1]
          refine (if_pos e0).trans ?_
          exact congrArg (fun v => (some (Sum.inl (some (vI v)), s) : Option nOut)) h9.1
        · simp only [d_242_0, h2 (s.1, s.2.1, z) rfl, h4, bI, n10, if_false]
          rw [d_242_28, r172_0]
          rw [bI_some]
          rw [if_pos rfl, if_pos e0, if_pos hin, en]
          simp (disch := decide) only [uM_ne]
      by_cases e1 : a2 = (1 : Int32)
      · subst e1
        exact nAsk (v := iN u) hJ (by simp only [d_146_0, h1 s rfl, bR, ntg_self, h3, bI, c80_1, bV, nn_some, e0, if_false, if_true, eu]) (fun z => by simp (disch := decide) only [d_242_0, h2 (s.1, s.2.1, z) rfl, h4, bI, n10, if_false, d_242_28, r172_0, e0, hin, en, uM_ne, if_true, mu])
      by_cases e2 : a2 = (2 : Int32)
      · subst e2
        exact nAsk (v := s.2.1 65 k) hJ (by simp only [d_146_0, h1 s rfl, bR, ntg_self, h3, bI, c80_1, bV, nn_some, e0, e1, if_false, if_true, hfl.1]) (fun z => by simp (disch := decide) only [d_242_0, h2 (s.1, s.2.1, z) rfl, h4, bI, n10, if_false, d_242_28, r172_0, e0, e1, hin, en, uM_ne, if_true])
      by_cases e3 : a2 = (3 : Int32)
      · subst e3
        by_cases hb : s.2.1 63 k = 0
        · exact nAsk (v := 0) hJ (by simp only [d_146_0, h1 s rfl, bR, ntg_self, h3, bI, c80_1, bV, nn_some, e0, e1, e2, if_false, hrt.1, hb, if_true]) (fun z => by simp (disch := decide) only [d_242_0, h2 (s.1, s.2.1, z) rfl, h4, bI, n10, if_false, d_242_28, r172_0, e0, e1, e2, hin, en, uM_ne, hb, if_true])
        · exact nAsk (v := 1) hJ (by simp only [d_146_0, h1 s rfl, bR, ntg_self, h3, bI, c80_1, bV, nn_some, e0, e1, e2, if_false, hrt.1, hb, if_true]) (fun z => by simp (disch := decide) only [d_242_0, h2 (s.1, s.2.1, z) rfl, h4, bI, n10, if_false, d_242_28, r172_0, e0, e1, e2, hin, en, uM_ne, hb, if_true])
      by_cases e4 : a2 = (4 : Int32)
      · subst e4
        exact nAsk (v := s.2.1 59 k) hJ (by simp only [d_146_0, h1 s rfl, bR, ntg_self, h3, bI, c80_1, bV, nn_some, e0, e1, e2, e3, if_false, if_true, hpr.1]) (fun z => by simp (disch := decide) only [d_242_0, h2 (s.1, s.2.1, z) rfl, h4, bI, n10, if_false, d_242_28, r172_0, e0, e1, e2, e3, hin, en, uM_ne, if_true])
      by_cases e5 : a2 = (5 : Int32)
      · subst e5
        exact nAsk (v := s.2.1 76 k) hJ (by simp only [d_146_0, h1 s rfl, bR, ntg_self, h3, bI, c80_1, bV, nn_some, e0, e1, e2, e3, e4, if_false, if_true, hpd.1]) (fun z => by simp (disch := decide) only [d_242_0, h2 (s.1, s.2.1, z) rfl, h4, bI, n10, if_false, d_242_28, r172_0, e0, e1, e2, e3, e4, hin, en, uM_ne, if_true])
      by_cases e6 : a2 = (6 : Int32)
      · subst e6
        have hq := code7 hJ hk
        by_cases h5' : s.2.1 66 k = 5
        · rw [if_pos h5'] at hq
          exact nAsk (v := s.2.1 72 k) hJ (by simp only [d_146_0, h1 s rfl, bR, ntg_self, h3, bI, c80_1, bV, nn_some, e0, e1, e2, e3, e4, e5, if_false, if_true, hq]) (fun z => by simp (disch := decide) only [d_242_0, h2 (s.1, s.2.1, z) rfl, h4, bI, n10, if_false, d_242_28, r172_0, e0, e1, e2, e3, e4, e5, hin, en, uM_ne, if_true, h5'])
        · rw [if_neg h5'] at hq
          exact nAsk (v := 0) hJ (by simp only [d_146_0, h1 s rfl, bR, ntg_self, h3, bI, c80_1, bV, nn_some, e0, e1, e2, e3, e4, e5, if_false, if_true, hq]) (fun z => by simp (disch := decide) only [d_242_0, h2 (s.1, s.2.1, z) rfl, h4, bI, n10, if_false, d_242_28, r172_0, e0, e1, e2, e3, e4, e5, hin, en, uM_ne, if_true, h5'])
      · obtain ⟨D, hD, -, t1, t2⟩ := tgt64 (xs := xs) (nx := nx) hJ hk
        have t1' := t1 s.2
        exact nAsk (v := iN D) hJ (by
          simp only [d_146_0, h1 s rfl, bR, ntg_self, h3, bI, c80_1, bV, nn_some, e0, e1, e2, e3, e4, e5, if_false, e6]
          rw [show s = (s.1, s.2) from rfl, t1']
          simp only [ntg_self, nn_some]) (fun z => by
          have t2' := t2 s.1 (uM 1 76 0 s.2.1) z (uM_ne (by decide)) (uM_ne (by decide)) (uM_ne (by decide)) (uM_ne (by decide))
          rw [← ea] at t2'
          simp (disch := decide) only [d_242_0, h2 (s.1, s.2.1, z) rfl, h4, bI, n10, if_false, d_242_28, r172_0, e0, e1, e2, e3, e4, e5, hin, en, uM_ne, e6, if_true, t2'])
end OPK
end KAP
