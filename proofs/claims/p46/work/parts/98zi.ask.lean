/-! ===== questions: what the class answers: made by wip/p46/gen2/mk98zi.py ===== -/
section KAP
variable {κ : kP}
section ASKP
variable {xs : Nat → Int32} {nx : Nat} {i : Nat} {c : nC} {m : nM} (w : nM × Nat × (Nat → Int64))
def nTh (E : Nat) (c : nC) (w : nM × Nat × (Nat → Int64)) : Option nOut := some (.inr E, (c, w.1, w.2.1 + 1, w.2.2))
def nVl (x : Int32) (c : nC) (w : nM × Nat × (Nat → Int64)) : Option nOut := some (.inl (some (vI x)), (c, w))
theorem iN_nlt {a b : Nat} (h : b ≤ a) (ha : a < 2 ^ 31) (hb : b < 2 ^ 31) : ¬ iN a < iN b := fun z => by
  have := (iN_lt ha hb).mp z
  omega
theorem p79y {x a b : Int32} (h1 : ¬ x < a) (h2 : ¬ b < x) (s : nS) : R1 xs nx 79 0 [some (vI x), some (vI a), some (vI b)] [] s = some (.inl (some (vI 1)), s) := by rw [d_79_0, if_neg h1, if_neg h2]
theorem p79n {x a b : Int32} (h : x < a ∨ b < x) (s : nS) : R1 xs nx 79 0 [some (vI x), some (vI a), some (vI b)] [] s = some (.inl (some (vI 0)), s) := by
  rcases h with h | h
  · rw [d_79_0, if_pos h]
  · by_cases h1 : x < a
    · rw [d_79_0, if_pos h1]
    · rw [d_79_0, if_neg h1, if_pos h]
theorem p78 {d : Nat} (hd : d < 5) (s : nS) : R1 xs nx 78 0 [some (vR 0 (some 0)), some (vI (iN d))] [] s = some (.inl (some (vR 21 (some d))), s) := by
  rw [d_78_0, if_neg (iN_pos (by omega)), if_pos (show iN d < (5 : Int32) from (iN_lt (b := 5) (by omega) (by omega)).mpr hd), if_pos (iN_in hd (by decide)), i32_nat (by omega)]
theorem p78n : R1 xs nx 78 0 [some (vR 0 (some 0)), some (vI 5)] [] (c, w) = nTh 0 c w := by
  rw [d_78_0, if_neg (by decide), if_neg (by decide)]
  rfl
theorem p92 {u : Nat} (hu : u < 4) (s : nS) : R1 xs nx 92 0 [some (vR 0 (some 0)), some (vI (iN u))] [] s = some (.inl (some (vR 22 (some u))), s) := by
  rw [d_92_0, if_neg (iN_pos (by omega)), if_pos (show iN u < (4 : Int32) from (iN_lt (b := 4) (by omega) (by omega)).mpr hu), if_pos (iN_in hu (by decide)), i32_nat (by omega)]
theorem p92n : R1 xs nx 92 0 [some (vR 0 (some 0)), some (vI 4)] [] (c, w) = nTh 0 c w := by
  rw [d_92_0, if_neg (by decide), if_neg (by decide)]
  rfl
theorem p86 (hJ : nJ κ i c m) {k : Nat} (hk : k < fN c 23) : R1 xs nx 86 0 [some (vR 0 (some 0)), some (vI (iN k))] [] (c, w) = some (.inl (some (vR 23 (some k))), (c, w)) := by
  obtain ⟨hc, hu, hl⟩ := hJ.1.1
  rw [d_86_0]
  dsimp only
  rw [hl, List.length_range, if_neg (iN_pos (by omega)), if_pos ((iN_lt (by omega) (by omega)).mpr hk), if_neg (iN_pos (by omega)), i32_nat (by omega), List.getElem?_range hk]
  rfl
theorem p86n (hJ : nJ κ i c m) {k : Nat} (hk : fN c 23 ≤ k) (hk2 : k < 100000) : R1 xs nx 86 0 [some (vR 0 (some 0)), some (vI (iN k))] [] (c, w) = nTh 0 c w := by
  obtain ⟨hc, hu, hl⟩ := hJ.1.1
  rw [d_86_0]
  dsimp only
  rw [hl, List.length_range, if_neg (iN_pos (by omega)), if_neg (iN_nlt hk (by omega) (by omega))]
  rfl
theorem p90 (hJ : nJ κ i c m) {k : Nat} (hk : k < fN c 24) : R1 xs nx 90 0 [some (vR 0 (some 0)), some (vI (iN k))] [] (c, w) = some (.inl (some (vR 24 (some k))), (c, w)) := by
  obtain ⟨hc, hu, hl⟩ := hJ.1.2.1
  rw [d_90_0]
  dsimp only
  rw [hl, List.length_range, if_neg (iN_pos (by omega)), if_pos ((iN_lt (by omega) (by omega)).mpr hk), if_neg (iN_pos (by omega)), i32_nat (by omega), List.getElem?_range hk]
  rfl
theorem p90n (hJ : nJ κ i c m) {k : Nat} (hk : fN c 24 ≤ k) (hk2 : k < 100000) : R1 xs nx 90 0 [some (vR 0 (some 0)), some (vI (iN k))] [] (c, w) = nTh 0 c w := by
  obtain ⟨hc, hu, hl⟩ := hJ.1.2.1
  rw [d_90_0]
  dsimp only
  rw [hl, List.length_range, if_neg (iN_pos (by omega)), if_neg (iN_nlt hk (by omega) (by omega))]
  rfl
theorem p97 (hJ : nJ κ i c m) {k : Nat} (hk : k < fN c 26) : R1 xs nx 97 0 [some (vR 0 (some 0)), some (vI (iN k))] [] (c, w) = some (.inl (some (vR 26 (some k))), (c, w)) := by
  obtain ⟨hc, hu, hl⟩ := hJ.1.2.2.1
  rw [d_97_0]
  dsimp only
  rw [hl, List.length_range, if_neg (iN_pos (by omega)), if_pos ((iN_lt (by omega) (by omega)).mpr hk), if_neg (iN_pos (by omega)), i32_nat (by omega), List.getElem?_range hk]
  rfl
theorem p97n (hJ : nJ κ i c m) {k : Nat} (hk : fN c 26 ≤ k) (hk2 : k < 100000) : R1 xs nx 97 0 [some (vR 0 (some 0)), some (vI (iN k))] [] (c, w) = nTh 0 c w := by
  obtain ⟨hc, hu, hl⟩ := hJ.1.2.2.1
  rw [d_97_0]
  dsimp only
  rw [hl, List.length_range, if_neg (iN_pos (by omega)), if_neg (iN_nlt hk (by omega) (by omega))]
  rfl
theorem p151 (hJ : nJ κ i c m) {k : Nat} (hk : k < fN c 27) : R1 xs nx 151 0 [some (vR 0 (some 0)), some (vI (iN k))] [] (c, w) = some (.inl (some (vR 27 (some k))), (c, w)) := by
  obtain ⟨hc, hu, hl⟩ := hJ.1.2.2.2.1
  rw [d_151_0]
  dsimp only
  rw [hl, List.length_range, if_neg (iN_pos (by omega)), if_pos ((iN_lt (by omega) (by omega)).mpr hk), if_neg (iN_pos (by omega)), i32_nat (by omega), List.getElem?_range hk]
  rfl
theorem p151n (hJ : nJ κ i c m) {k : Nat} (hk : fN c 27 ≤ k) (hk2 : k < 100000) : R1 xs nx 151 0 [some (vR 0 (some 0)), some (vI (iN k))] [] (c, w) = nTh 0 c w := by
  obtain ⟨hc, hu, hl⟩ := hJ.1.2.2.2.1
  rw [d_151_0]
  dsimp only
  rw [hl, List.length_range, if_neg (iN_pos (by omega)), if_neg (iN_nlt hk (by omega) (by omega))]
  rfl
theorem p135 (hJ : nJ κ i c m) {k : Nat} (hk : k < fN c 28) : R1 xs nx 135 0 [some (vR 0 (some 0)), some (vI (iN k))] [] (c, w) = some (.inl (some (vR 28 (some k))), (c, w)) := by
  obtain ⟨hc, hu, hl⟩ := hJ.1.2.2.2.2.1
  rw [d_135_0]
  dsimp only
  rw [hl, List.length_range, if_neg (iN_pos (by omega)), if_pos ((iN_lt (by omega) (by omega)).mpr hk), if_neg (iN_pos (by omega)), i32_nat (by omega), List.getElem?_range hk]
  rfl
theorem p135n (hJ : nJ κ i c m) {k : Nat} (hk : fN c 28 ≤ k) (hk2 : k < 100000) : R1 xs nx 135 0 [some (vR 0 (some 0)), some (vI (iN k))] [] (c, w) = nTh 0 c w := by
  obtain ⟨hc, hu, hl⟩ := hJ.1.2.2.2.2.1
  rw [d_135_0]
  dsimp only
  rw [hl, List.length_range, if_neg (iN_pos (by omega)), if_neg (iN_nlt hk (by omega) (by omega))]
  rfl
theorem q144 (hJ : nJ κ i c m) {k : Nat} (hk : k < fN c 26) : R1 xs nx 144 0 [some (vR 0 (some 0)), some (vI (iN k))] [] (c, w) = nVl (m 66 k) c w := by
  have e := (hJ.2.2.2.2.2.2.2.1 k hk).1
  simp only [d_144_0, p97 w hJ hk, bR, ntg_self, nn_some, e, nVl]
theorem q145 (hJ : nJ κ i c m) {k : Nat} (hk : k < fN c 26) : R1 xs nx 145 0 [some (vR 0 (some 0)), some (vI (iN k))] [] (c, w) = nVl (m 67 k) c w := by
  have e := (hJ.2.2.2.2.2.2.2.1 k hk).2.1
  simp only [d_145_0, p97 w hJ hk, bR, ntg_self, nn_some, e, nVl]
theorem q146_0 (hJ : nJ κ i c m) {k : Nat} (hk : k < fN c 26) : R1 xs nx 146 0 [some (vR 0 (some 0)), some (vI (iN k)), some (vI 0), none] [] (c, w) = nVl (m 50 k) c w := by
  obtain ⟨⟨u, hu, eu, mu⟩, h9, hs, hr, hz, hx, hv, hc, hd, hpd, hwf, hwt, hpr, htd, hdb, hfr, hrt, hfl⟩ := hJ.2.2.2.2.2.1 k hk
  simp only [d_146_0, p97 w hJ hk, bR, ntg_self, p79y (x := 0) (a := 0) (b := 7) (by decide) (by decide), bI, c80_1, bV, nn_some, if_true, if_false, show ¬ (0 : Int32) = 1 by decide, show ¬ (0 : Int32) = 2 by decide, show ¬ (0 : Int32) = 3 by decide, show ¬ (0 : Int32) = 4 by decide, show ¬ (0 : Int32) = 5 by decide, show ¬ (0 : Int32) = 6 by decide, h9.1, nVl]
theorem q146_1 (hJ : nJ κ i c m) {k : Nat} (hk : k < fN c 26) : R1 xs nx 146 0 [some (vR 0 (some 0)), some (vI (iN k)), some (vI 1), none] [] (c, w) = nVl (m 49 k) c w := by
  obtain ⟨⟨u, hu, eu, mu⟩, h9, hs, hr, hz, hx, hv, hc, hd, hpd, hwf, hwt, hpr, htd, hdb, hfr, hrt, hfl⟩ := hJ.2.2.2.2.2.1 k hk
  simp only [d_146_0, p97 w hJ hk, bR, ntg_self, p79y (x := 1) (a := 0) (b := 7) (by decide) (by decide), bI, c80_1, bV, nn_some, if_true, if_false, show ¬ (1 : Int32) = 0 by decide, show ¬ (1 : Int32) = 2 by decide, show ¬ (1 : Int32) = 3 by decide, show ¬ (1 : Int32) = 4 by decide, show ¬ (1 : Int32) = 5 by decide, show ¬ (1 : Int32) = 6 by decide, eu, mu, nVl]
theorem q146_2 (hJ : nJ κ i c m) {k : Nat} (hk : k < fN c 26) : R1 xs nx 146 0 [some (vR 0 (some 0)), some (vI (iN k)), some (vI 2), none] [] (c, w) = nVl (m 65 k) c w := by
  obtain ⟨⟨u, hu, eu, mu⟩, h9, hs, hr, hz, hx, hv, hc, hd, hpd, hwf, hwt, hpr, htd, hdb, hfr, hrt, hfl⟩ := hJ.2.2.2.2.2.1 k hk
  simp only [d_146_0, p97 w hJ hk, bR, ntg_self, p79y (x := 2) (a := 0) (b := 7) (by decide) (by decide), bI, c80_1, bV, nn_some, if_true, if_false, show ¬ (2 : Int32) = 0 by decide, show ¬ (2 : Int32) = 1 by decide, show ¬ (2 : Int32) = 3 by decide, show ¬ (2 : Int32) = 4 by decide, show ¬ (2 : Int32) = 5 by decide, show ¬ (2 : Int32) = 6 by decide, hfl.1, nVl]
theorem q146_4 (hJ : nJ κ i c m) {k : Nat} (hk : k < fN c 26) : R1 xs nx 146 0 [some (vR 0 (some 0)), some (vI (iN k)), some (vI 4), none] [] (c, w) = nVl (m 59 k) c w := by
  obtain ⟨⟨u, hu, eu, mu⟩, h9, hs, hr, hz, hx, hv, hc, hd, hpd, hwf, hwt, hpr, htd, hdb, hfr, hrt, hfl⟩ := hJ.2.2.2.2.2.1 k hk
  simp only [d_146_0, p97 w hJ hk, bR, ntg_self, p79y (x := 4) (a := 0) (b := 7) (by decide) (by decide), bI, c80_1, bV, nn_some, if_true, if_false, show ¬ (4 : Int32) = 0 by decide, show ¬ (4 : Int32) = 1 by decide, show ¬ (4 : Int32) = 2 by decide, show ¬ (4 : Int32) = 3 by decide, show ¬ (4 : Int32) = 5 by decide, show ¬ (4 : Int32) = 6 by decide, hpr.1, nVl]
theorem q146_5 (hJ : nJ κ i c m) {k : Nat} (hk : k < fN c 26) : R1 xs nx 146 0 [some (vR 0 (some 0)), some (vI (iN k)), some (vI 5), none] [] (c, w) = nVl (m 76 k) c w := by
  obtain ⟨⟨u, hu, eu, mu⟩, h9, hs, hr, hz, hx, hv, hc, hd, hpd, hwf, hwt, hpr, htd, hdb, hfr, hrt, hfl⟩ := hJ.2.2.2.2.2.1 k hk
  simp only [d_146_0, p97 w hJ hk, bR, ntg_self, p79y (x := 5) (a := 0) (b := 7) (by decide) (by decide), bI, c80_1, bV, nn_some, if_true, if_false, show ¬ (5 : Int32) = 0 by decide, show ¬ (5 : Int32) = 1 by decide, show ¬ (5 : Int32) = 2 by decide, show ¬ (5 : Int32) = 3 by decide, show ¬ (5 : Int32) = 4 by decide, show ¬ (5 : Int32) = 6 by decide, hpd.1, nVl]
theorem q146_6 (hJ : nJ κ i c m) {k : Nat} (hk : k < fN c 26) : R1 xs nx 146 0 [some (vR 0 (some 0)), some (vI (iN k)), some (vI 6), none] [] (c, w) = nVl (if m 66 k = 5 then m 72 k else 0) c w := by
  obtain ⟨⟨u, hu, eu, mu⟩, h9, hs, hr, hz, hx, hv, hc, hd, hpd, hwf, hwt, hpr, htd, hdb, hfr, hrt, hfl⟩ := hJ.2.2.2.2.2.1 k hk
  simp only [d_146_0, p97 w hJ hk, bR, ntg_self, p79y (x := 6) (a := 0) (b := 7) (by decide) (by decide), bI, c80_1, bV, nn_some, if_true, if_false, show ¬ (6 : Int32) = 0 by decide, show ¬ (6 : Int32) = 1 by decide, show ¬ (6 : Int32) = 2 by decide, show ¬ (6 : Int32) = 3 by decide, show ¬ (6 : Int32) = 4 by decide, show ¬ (6 : Int32) = 5 by decide, code7 hJ hk, nVl]
theorem q146_3 (hJ : nJ κ i c m) {k : Nat} (hk : k < fN c 26) : R1 xs nx 146 0 [some (vR 0 (some 0)), some (vI (iN k)), some (vI 3), none] [] (c, w) = nVl (m 63 k) c w := by
  obtain ⟨⟨u, hu, eu, mu⟩, h9, hs, hr, hz, hx, hv, hc, hd, hpd, hwf, hwt, hpr, htd, hdb, hfr, hrt, hfl⟩ := hJ.2.2.2.2.2.1 k hk
  rcases hrt.2 with hb | hb
  · simp only [d_146_0, p97 w hJ hk, bR, ntg_self, p79y (x := 3) (a := 0) (b := 7) (by decide) (by decide), bI, c80_1, bV, nn_some, if_true, if_false, show ¬ (3 : Int32) = 0 by decide, show ¬ (3 : Int32) = 1 by decide, show ¬ (3 : Int32) = 2 by decide, show ¬ (3 : Int32) = 4 by decide, show ¬ (3 : Int32) = 5 by decide, show ¬ (3 : Int32) = 6 by decide, hrt.1, hb, nVl]
  · simp only [d_146_0, p97 w hJ hk, bR, ntg_self, p79y (x := 3) (a := 0) (b := 7) (by decide) (by decide), bI, c80_1, bV, nn_some, if_true, if_false, show ¬ (3 : Int32) = 0 by decide, show ¬ (3 : Int32) = 1 by decide, show ¬ (3 : Int32) = 2 by decide, show ¬ (3 : Int32) = 4 by decide, show ¬ (3 : Int32) = 5 by decide, show ¬ (3 : Int32) = 6 by decide, hrt.1, hb, n10, nVl]
theorem q146_7 (hJ : nJ κ i c m) {k : Nat} (hk : k < fN c 26) : R1 xs nx 146 0 [some (vR 0 (some 0)), some (vI (iN k)), some (vI 7), none] [] (c, w) = nVl (iN (tgD c m k)) c w := by
  obtain ⟨D, hD, eD, t1, t2⟩ := tgt64 (xs := xs) (nx := nx) hJ hk
  simp only [d_146_0, p97 w hJ hk, bR, ntg_self, p79y (x := 7) (a := 0) (b := 7) (by decide) (by decide), bI, c80_1, bV, nn_some, if_false, show ¬ (7 : Int32) = 0 by decide, show ¬ (7 : Int32) = 1 by decide, show ¬ (7 : Int32) = 2 by decide, show ¬ (7 : Int32) = 3 by decide, show ¬ (7 : Int32) = 4 by decide, show ¬ (7 : Int32) = 5 by decide, show ¬ (7 : Int32) = 6 by decide, t1 w]
  rw [eD]
  rfl
theorem q149 (hJ : nJ κ i c m) {l : Nat} (hl : l < fN c 23) : R1 xs nx 149 0 [some (vR 0 (some 0)), some (vI (iN l)), none] [] (c, w) = nVl (if m 44 l = -1 then -1 else m 1 0 - m 44 l) c w := by
  have e := (hJ.2.2.2.1.1 l hl).2.2.2.2.2.2.2.2.2.1
  have ck := (nJ_ck hJ).1
  by_cases h9 : m 44 l = -1
  · simp only [d_149_0, p86 w hJ hl, bR, ntg_self, nn_some, e, h9, if_true, nVl]
  · simp only [d_149_0, p86 w hJ hl, bR, ntg_self, nn_some, e, h9, if_false, ck, nVl]
theorem q150 (hJ : nJ κ i c m) {l : Nat} (hl : l < fN c 23) : R1 xs nx 150 0 [some (vR 0 (some 0)), some (vI (iN l))] [] (c, w) = nVl (iN (fL c 6 l).length) c w := by
  simp only [d_150_0, p86 w hJ hl, bR, ntg_self, nn_some, nVl]
theorem q153 (hJ : nJ κ i c m) {l : Nat} (hl : l < fN c 28) {j : Nat} (h1 : 1 ≤ j) (h3 : j ≤ 3) : R1 xs nx 153 0 [some (vR 0 (some 0)), some (vI (iN l)), some (vI (iN j)), none] [] (c, w) = nVl (fI c 7 l j) c w := by
  have hj : ¬ iN j < (1 : Int32) := iN_nlt (b := 1) h1 (by omega) (by omega)
  have hj3 : ¬ (3 : Int32) < iN j := iN_nlt (a := 3) h3 (by omega) (by omega)
  simp only [d_153_0, p135 w hJ hl, bR, ntg_self, p79y hj hj3, bI, c80_1, bV, nn_some, d_53_0, if_neg (iN_pos (show j < 2 ^ 31 by omega)), if_pos (show iN j < (4 : Int32) from (iN_lt (b := 4) (by omega) (by omega)).mpr (by omega)), if_pos (iN_in (show j < 4 by omega) (by decide)), i32_nat (show j < 2 ^ 31 by omega), nVl]
theorem q154 (hJ : nJ κ i c m) {u : Nat} (hu : u < 4) : R1 xs nx 154 0 [some (vR 0 (some 0)), some (vI (iN u))] [] (c, w) = nVl (m 90 u) c w := by
  have e := hJ.2.2.2.2.2.2.2.2.2.2.2.2.2.2.1 u hu
  simp only [d_154_0, p92 hu, bR, ntg_self, nn_some, e, nVl]
theorem q143 (hJ : nJ κ i c m) : R1 xs nx 143 0 [some (vR 0 (some 0))] [] (c, w) = nVl (m 1 0) c w := by
  simp only [d_143_0, (nJ_ck hJ).1, nVl]
theorem q156 : R1 xs nx 156 0 [some (vR 0 (some 0))] [] (c, w) = nVl (iN (fL c 19 0).length) c w := by
  simp only [d_156_0, nVl]
theorem q158 (hJ : nJ κ i c m) {k p : Nat} (hk : k < (fL c 19 0).length) (hp : p ≤ 3) : R1 xs nx 158 0 [some (vR 0 (some 0)), some (vI (iN k)), some (vI (iN p)), none] [] (c, w) = nVl (m (91 + p) k) c w := by
  obtain ⟨-, b2, b3⟩ := hJ.1.2.2.2.2.2
  have hb : (fL c 19 0)[k]? = some ((fL c 19 0)[k]) := List.getElem?_eq_getElem hk
  obtain ⟨-, w1, -, ⟨-, w2⟩, ⟨w3, -⟩, w4, -⟩ := hJ.2.2.2.2.2.2.2.2.2.2.2.2.2.1.1 k _ hb
  have hin : ¬ iN (fL c 19 0).length - 1 < iN k := by
    show ¬ iN (fL c 19 0).length - iN 1 < iN k
    rw [Int32.lt_iff_toInt_lt, iN_subI (by omega) (by omega), iN_toInt (by omega)]
    omega
  have hp3 : ¬ (3 : Int32) < iN p := iN_nlt (a := 3) hp (by omega) (by omega)
  have en : (iN k).toNatClampNeg = k := i32_nat (by omega)
  obtain rfl | rfl | rfl | rfl : p = 0 ∨ p = 1 ∨ p = 2 ∨ p = 3 := by omega
  · simp only [d_158_0, p79y (iN_pos (show k < 2 ^ 31 by omega)) hin, show (iN 0 : Int32) = 0 from rfl, p79y (x := 0) (a := 0) (b := 3) (by decide) (by decide), bI, d_157_0, n10, if_false, bV, c80_1, if_neg (iN_pos (show k < 2 ^ 31 by omega)), en, hb, nn_some, show (iN 0 : Int32) = 0 from rfl, if_true, w1, nVl]
  · simp only [d_158_0, p79y (iN_pos (show k < 2 ^ 31 by omega)) hin, show (iN 1 : Int32) = 1 from rfl, p79y (x := 1) (a := 0) (b := 3) (by decide) (by decide), bI, d_157_0, n10, if_false, bV, c80_1, if_neg (iN_pos (show k < 2 ^ 31 by omega)), en, hb, nn_some, show (iN 1 : Int32) = 1 from rfl, if_true, w2, nVl]
  · simp only [d_158_0, p79y (iN_pos (show k < 2 ^ 31 by omega)) hin, show (iN 2 : Int32) = 2 from rfl, p79y (x := 2) (a := 0) (b := 3) (by decide) (by decide), bI, d_157_0, n10, if_false, bV, c80_1, if_neg (iN_pos (show k < 2 ^ 31 by omega)), en, hb, nn_some, show (iN 2 : Int32) = 2 from rfl, n20, show ¬ (2 : Int32) = 1 by decide, if_true, w3, nVl]
  · simp only [d_158_0, p79y (iN_pos (show k < 2 ^ 31 by omega)) hin, show (iN 3 : Int32) = 3 from rfl, p79y (x := 3) (a := 0) (b := 3) (by decide) (by decide), bI, d_157_0, n10, if_false, bV, c80_1, if_neg (iN_pos (show k < 2 ^ 31 by omega)), en, hb, nn_some, show (iN 3 : Int32) = 3 from rfl, n30, show ¬ (3 : Int32) = 1 by decide, show ¬ (3 : Int32) = 2 by decide, if_true, w4, nVl]
/-- how many parcels there are of a kind -/
def nCnt (n : Nat) (p : Nat → Bool) : Nat := ((List.range' 0 n).filter p).length
theorem q147 (hJ : nJ κ i c m) {x : Nat} (hx : x ≤ 8) : R1 xs nx 147 0 [some (vR 0 (some 0)), some (vI (iN x)), none, none] [] (c, w) = nVl (iN (nCnt (fN c 26) fun k => decide (m 66 k = iN x))) c w := by
  obtain ⟨q1, q2, q3⟩ := hJ.1.2.2.1
  have hS := hJ.2.2.2.2.2.2.2.1
  have hx8 : ¬ (8 : Int32) < iN x := iN_nlt (a := 8) hx (by omega) (by omega)
  have hc := nAcc_cnt (p := fun k => m 66 k = iN x) (fN c 26) 0 0
  rw [Nat.zero_add, show (iN 0 : Int32) = 0 from rfl] at hc
  have e9 : ∀ k, k < fN c 26 → (if fI c 9 k 0 = iN x then (1 : Int32) else 0) = if m 66 k = iN x then 1 else 0 := fun k hk => by rw [(hS k hk).1]
  unfold nCnt nVl
  rw [← hc, ← nAcc_cg e9 (fN c 26) 0 0 (Nat.zero_add _)]
  simp only [d_147_0, p79y (iN_pos (show x < 2 ^ 31 by omega)) hx8, bI, c80_1, bV]
  refine nSumL (F := fun acc j => R1 xs nx 147 14 [some (vR 0 (some 0)), some (vI (iN x)), some (vI acc), some (vI j)] [] (c, w)) (f := fun k => if fI c 9 k 0 = iN x then 1 else 0) (P := fN c 26) (fun k acc hk => ?_) (fun acc => ?_) (fN c 26) 0 0 (Nat.zero_add _)
  · show R1 xs nx 147 14 _ _ _ = R1 xs nx 147 14 _ _ _
    rw [d_147_14]
    dsimp only
    rw [q3, List.length_range, if_pos ((iN_lt (by omega) (by omega)).mpr hk), if_neg (iN_pos (by omega)), i32_nat (by omega), List.getElem?_range hk, nn_some]
    by_cases e : fI c 9 k 0 = iN x
    · rw [if_pos e, d_147_52, iN_add1, if_pos e]
    · rw [if_neg e, d_147_52, iN_add1, if_neg e]
  · show R1 xs nx 147 14 _ _ _ = _
    rw [d_147_14]
    dsimp only
    rw [q3, List.length_range, if_neg (fun z => Nat.lt_irrefl _ ((iN_lt (by omega) (by omega)).mp z))]
/-- the stock of a depot -/
theorem q162 (hJ : nJ κ i c m) {d : Nat} (hd : d < 5) : R1 xs nx 162 0 [some (vR 0 (some 0)), some (vI (iN d)), none, none, none] [] (c, w) = nVl (iN (nCnt (fN c 26) fun k => decide (fP c 9 k 3 = some d))) c w := by
  obtain ⟨q1, q2, q3⟩ := hJ.1.2.2.1
  have hc := nAcc_cnt (p := fun k => fP c 9 k 3 = some d) (fN c 26) 0 0
  rw [Nat.zero_add, show (iN 0 : Int32) = 0 from rfl] at hc
  unfold nCnt nVl
  rw [← hc]
  simp only [d_162_0, p78 hd, bR, ntg_self]
  refine nSumL (F := fun acc j => R1 xs nx 162 11 [some (vR 0 (some 0)), some (vI (iN d)), some (vR 21 (some d)), some (vI acc), some (vI j)] [] (c, w)) (f := fun k => if fP c 9 k 3 = some d then 1 else 0) (P := fN c 26) (fun k acc hk => ?_) (fun acc => ?_) (fN c 26) 0 0 (Nat.zero_add _)
  · show R1 xs nx 162 11 _ _ _ = R1 xs nx 162 11 _ _ _
    rw [d_162_11]
    dsimp only
    rw [q3, List.length_range, if_pos ((iN_lt (by omega) (by omega)).mpr hk), if_neg (iN_pos (by omega)), i32_nat (by omega), List.getElem?_range hk, nn_some]
    by_cases e : fP c 9 k 3 = some d
    · rw [if_pos e, d_162_51, iN_add1, if_pos e]
    · rw [if_neg e, d_162_51, iN_add1, if_neg e]
  · show R1 xs nx 162 11 _ _ _ = _
    rw [d_162_11]
    dsimp only
    rw [q3, List.length_range, if_neg (fun z => Nat.lt_irrefl _ ((iN_lt (by omega) (by omega)).mp z))]
/-- the cash of a depot -/
theorem q155 (hJ : nJ κ i c m) {d : Nat} (hd : d < 5) : ∃ x : Nat, x ≤ 20000 ∧ R1 xs nx 155 0 [some (vR 0 (some 0)), some (vI (iN d)), none, none, none, none] [] (c, w) = nVl (iN x) c w := by
  obtain ⟨q1, q2, q3⟩ := hJ.1.2.2.1
  have hP := hJ.2.2.2.2.2.1
  have hsum : ∀ (n i b : Nat), i + n = fN c 26 → ∃ x, x ≤ b + 500 * n ∧ nAcc (fun k => if fP c 8 k 5 = some d then fI c 8 k 1 else 0) n i (iN b) = iN x := by
    intro n
    induction n with
    | zero => intro i b _; exact ⟨b, by omega, rfl⟩
    | succ n ih =>
      intro j b e
      obtain ⟨e1, x, -, x2, x3⟩ := (hP j (by omega)).2.2.2.2.2.2.2.1
      simp only [nAcc]
      by_cases h : fP c 8 j 5 = some d
      · rw [if_pos h, e1, x3, show iN b + iN x = iN (b + x) from i32_add]
        obtain ⟨y, y1, y2⟩ := ih (j + 1) (b + x) (by omega)
        exact ⟨y, by omega, y2⟩
      · rw [if_neg h, show iN b + 0 = iN b from i32_add (b := 0)]
        obtain ⟨y, y1, y2⟩ := ih (j + 1) b (by omega)
        exact ⟨y, by omega, y2⟩
  obtain ⟨x, x1, x2⟩ := hsum (fN c 26) 0 0 (Nat.zero_add _)
  refine ⟨x, by omega, ?_⟩
  unfold nVl
  rw [← x2]
  simp only [d_155_0, p78 hd, bR, ntg_self]
  exact cash_loop q3 q1 (fN c 26) 0 0 _ (Nat.zero_add _)
end ASKP
end KAP
