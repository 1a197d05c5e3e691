/-! ===== numbers of lanes, addresses, parcels, vans, lockers, customers; some questions: made by wip/whole/gen2/mk84.py ===== -/
section KAP
variable {κ : kP}
section OPI
variable {xs : Nat → Int32} {nx : Nat}
theorem nIdx (a : Int32) {n : Nat} (hn : n ≤ 1000) : ((a < 0 ∨ (¬ a < 0 ∧ ¬ a < iN n)) ∧ (a < 0 ∨ (¬ a < 0 ∧ iN n - 1 < a))) ∨ (¬ a < 0 ∧ a < iN n ∧ ¬ iN n - 1 < a ∧ ∃ k, k < n ∧ a = iN k) := by
  have e : (iN n - 1).toInt = (n : Int) - 1 := iN_subI (b := 1) (by omega) (by omega)
  by_cases h1 : a < 0
  · exact Or.inl ⟨Or.inl h1, Or.inl h1⟩
  · by_cases h2 : a < iN n
    · refine Or.inr ⟨h1, h2, ?_, a.toInt.toNat, ?_⟩
      · rw [Int32.lt_iff_toInt_lt, e]
        rw [Int32.lt_iff_toInt_lt, Int32.toInt_ofNat_of_lt (by omega)] at h2
        omega
      · rw [Int32.lt_iff_toInt_lt, Int32.toInt_ofNat_of_lt (by omega)] at h2
        rw [Int32.lt_iff_toInt_lt, show (0 : Int32).toInt = 0 from rfl] at h1
        refine ⟨by omega, ?_⟩
        apply Int32.toInt_inj.mp
        rw [Int32.toInt_ofNat_of_lt (by omega)]
        omega
    · refine Or.inl ⟨Or.inr ⟨h1, h2⟩, Or.inr ⟨h1, ?_⟩⟩
      rw [Int32.lt_iff_toInt_lt, e]
      rw [Int32.lt_iff_toInt_lt, Int32.toInt_ofNat_of_lt (by omega)] at h2
      omega
theorem is174 {a b : Int32} {s : nS} (h : a < 0 ∨ (¬ a < 0 ∧ b < a)) : R1 xs nx 174 0 [some (vI a), some (vI 0), some (vI b)] [] s = some (.inl (some (vI 0)), s) := by
  rcases h with h | ⟨h, h'⟩
  · rw [d_174_0, if_pos h]
  · rw [d_174_0, if_neg h, if_pos h']
theorem in174 {a b : Int32} {s : nS} (h : ¬ a < 0) (h' : ¬ b < a) : R1 xs nx 174 0 [some (vI a), some (vI 0), some (vI b)] [] s = some (.inl (some (vI 1)), s) := by
  rw [d_174_0, if_neg h, if_neg h']
theorem idx86 {i : Nat} {c : nC} {m : nM} (hJ : nJ κ i c m) (a : Int32) : ((∀ s : nS, fL s.1 14 0 = fL c 14 0 → R1 xs nx 86 0 [some (vR 0 (some 0)), some (vI a)] [] s = some (.inr 0, (s.1, s.2.1, s.2.2.1 + 1, s.2.2.2))) ∧ ∀ s : nS, s.2.1 1 8 = m 1 8 → R1 xs nx 176 0 [some (vR 1 (some 0)), some (vI a)] [] s = some (.inl (some (vI 0)), s)) ∨
    ∃ k, k < fN c 23 ∧ a = iN k ∧ mIn a 12 = true ∧ a.toNatClampNeg = k ∧ (∀ s : nS, fL s.1 14 0 = fL c 14 0 → R1 xs nx 86 0 [some (vR 0 (some 0)), some (vI a)] [] s = some (.inl (some (vR 23 (some k))), s)) ∧ ∀ s : nS, s.2.1 1 8 = m 1 8 → R1 xs nx 176 0 [some (vR 1 (some 0)), some (vI a)] [] s = some (.inl (some (vI 1)), s) := by
  obtain ⟨hc, hu, hl⟩ := hJ.1.1
  rcases nIdx a (n := fN c 23) (by omega) with ⟨h1, h2⟩ | ⟨h1, h2, h3, k, hk, rfl⟩
  · refine Or.inl ⟨fun s hs => ?_, fun s hs => ?_⟩
    · rw [d_86_0, hs, hl, List.length_range]
      rcases h1 with h | ⟨h, h'⟩
      · rw [if_pos h]
      · rw [if_neg h, if_neg h']
    · rw [d_176_0, hs, hu, is174 h2]
      simp only [bI, true_or, if_true]
  · refine Or.inr ⟨k, hk, rfl, mIn_iff.mpr ⟨i32_pos (by omega), by rw [i32_nat (by omega)]; omega⟩, i32_nat (by omega), fun s hs => ?_, fun s hs => ?_⟩
    · rw [d_86_0, hs, hl, List.length_range, if_neg h1, if_pos h2, if_neg h1, i32_nat (by omega), List.getElem?_range hk]
      rfl
    · rw [d_176_0, hs, hu, in174 h1 h3]
      simp only [bI, or_true, if_true]
theorem idx90 {i : Nat} {c : nC} {m : nM} (hJ : nJ κ i c m) (a : Int32) : ((∀ s : nS, fL s.1 15 0 = fL c 15 0 → R1 xs nx 90 0 [some (vR 0 (some 0)), some (vI a)] [] s = some (.inr 0, (s.1, s.2.1, s.2.2.1 + 1, s.2.2.2))) ∧ ∀ s : nS, s.2.1 1 19 = m 1 19 → R1 xs nx 177 0 [some (vR 1 (some 0)), some (vI a)] [] s = some (.inl (some (vI 0)), s)) ∨
    ∃ k, k < fN c 24 ∧ a = iN k ∧ mIn a 20 = true ∧ a.toNatClampNeg = k ∧ (∀ s : nS, fL s.1 15 0 = fL c 15 0 → R1 xs nx 90 0 [some (vR 0 (some 0)), some (vI a)] [] s = some (.inl (some (vR 24 (some k))), s)) ∧ ∀ s : nS, s.2.1 1 19 = m 1 19 → R1 xs nx 177 0 [some (vR 1 (some 0)), some (vI a)] [] s = some (.inl (some (vI 1)), s) := by
  obtain ⟨hc, hu, hl⟩ := hJ.1.2.1
  rcases nIdx a (n := fN c 24) (by omega) with ⟨h1, h2⟩ | ⟨h1, h2, h3, k, hk, rfl⟩
  · refine Or.inl ⟨fun s hs => ?_, fun s hs => ?_⟩
    · rw [d_90_0, hs, hl, List.length_range]
      rcases h1 with h | ⟨h, h'⟩
      · rw [if_pos h]
      · rw [if_neg h, if_neg h']
    · rw [d_177_0, hs, hu, is174 h2]
      simp only [bI, true_or, if_true]
  · refine Or.inr ⟨k, hk, rfl, mIn_iff.mpr ⟨i32_pos (by omega), by rw [i32_nat (by omega)]; omega⟩, i32_nat (by omega), fun s hs => ?_, fun s hs => ?_⟩
    · rw [d_90_0, hs, hl, List.length_range, if_neg h1, if_pos h2, if_neg h1, i32_nat (by omega), List.getElem?_range hk]
      rfl
    · rw [d_177_0, hs, hu, in174 h1 h3]
      simp only [bI, or_true, if_true]
theorem idx97 {i : Nat} {c : nC} {m : nM} (hJ : nJ κ i c m) (a : Int32) : ((∀ s : nS, fL s.1 16 0 = fL c 16 0 → R1 xs nx 97 0 [some (vR 0 (some 0)), some (vI a)] [] s = some (.inr 0, (s.1, s.2.1, s.2.2.1 + 1, s.2.2.2))) ∧ ∀ s : nS, s.2.1 1 24 = m 1 24 → R1 xs nx 178 0 [some (vR 1 (some 0)), some (vI a)] [] s = some (.inl (some (vI 0)), s)) ∨
    ∃ k, k < fN c 26 ∧ a = iN k ∧ mIn a 40 = true ∧ a.toNatClampNeg = k ∧ (∀ s : nS, fL s.1 16 0 = fL c 16 0 → R1 xs nx 97 0 [some (vR 0 (some 0)), some (vI a)] [] s = some (.inl (some (vR 26 (some k))), s)) ∧ ∀ s : nS, s.2.1 1 24 = m 1 24 → R1 xs nx 178 0 [some (vR 1 (some 0)), some (vI a)] [] s = some (.inl (some (vI 1)), s) := by
  obtain ⟨hc, hu, hl⟩ := hJ.1.2.2.1
  rcases nIdx a (n := fN c 26) (by omega) with ⟨h1, h2⟩ | ⟨h1, h2, h3, k, hk, rfl⟩
  · refine Or.inl ⟨fun s hs => ?_, fun s hs => ?_⟩
    · rw [d_97_0, hs, hl, List.length_range]
      rcases h1 with h | ⟨h, h'⟩
      · rw [if_pos h]
      · rw [if_neg h, if_neg h']
    · rw [d_178_0, hs, hu, is174 h2]
      simp only [bI, true_or, if_true]
  · refine Or.inr ⟨k, hk, rfl, mIn_iff.mpr ⟨i32_pos (by omega), by rw [i32_nat (by omega)]; omega⟩, i32_nat (by omega), fun s hs => ?_, fun s hs => ?_⟩
    · rw [d_97_0, hs, hl, List.length_range, if_neg h1, if_pos h2, if_neg h1, i32_nat (by omega), List.getElem?_range hk]
      rfl
    · rw [d_178_0, hs, hu, in174 h1 h3]
      simp only [bI, or_true, if_true]
theorem idx151 {i : Nat} {c : nC} {m : nM} (hJ : nJ κ i c m) (a : Int32) : ((∀ s : nS, fL s.1 17 0 = fL c 17 0 → R1 xs nx 151 0 [some (vR 0 (some 0)), some (vI a)] [] s = some (.inr 0, (s.1, s.2.1, s.2.2.1 + 1, s.2.2.2))) ∧ ∀ s : nS, s.2.1 1 55 = m 1 55 → R1 xs nx 174 0 [some (vI a), some (vI 0), some (vI (s.2.1 1 55 - (1 : Int32)))] [] s = some (.inl (some (vI 0)), s)) ∨
    ∃ k, k < fN c 27 ∧ a = iN k ∧ mIn a 6 = true ∧ a.toNatClampNeg = k ∧ (∀ s : nS, fL s.1 17 0 = fL c 17 0 → R1 xs nx 151 0 [some (vR 0 (some 0)), some (vI a)] [] s = some (.inl (some (vR 27 (some k))), s)) ∧ ∀ s : nS, s.2.1 1 55 = m 1 55 → R1 xs nx 174 0 [some (vI a), some (vI 0), some (vI (s.2.1 1 55 - (1 : Int32)))] [] s = some (.inl (some (vI 1)), s) := by
  obtain ⟨hc, hu, hl⟩ := hJ.1.2.2.2.1
  rcases nIdx a (n := fN c 27) (by omega) with ⟨h1, h2⟩ | ⟨h1, h2, h3, k, hk, rfl⟩
  · refine Or.inl ⟨fun s hs => ?_, fun s hs => ?_⟩
    · rw [d_151_0, hs, hl, List.length_range]
      rcases h1 with h | ⟨h, h'⟩
      · rw [if_pos h]
      · rw [if_neg h, if_neg h']
    · rw [hs, hu]
      exact is174 h2
  · refine Or.inr ⟨k, hk, rfl, mIn_iff.mpr ⟨i32_pos (by omega), by rw [i32_nat (by omega)]; omega⟩, i32_nat (by omega), fun s hs => ?_, fun s hs => ?_⟩
    · rw [d_151_0, hs, hl, List.length_range, if_neg h1, if_pos h2, if_neg h1, i32_nat (by omega), List.getElem?_range hk]
      rfl
    · rw [hs, hu]
      exact in174 h1 h3
theorem idx135 {i : Nat} {c : nC} {m : nM} (hJ : nJ κ i c m) (a : Int32) : ((∀ s : nS, fL s.1 18 0 = fL c 18 0 → R1 xs nx 135 0 [some (vR 0 (some 0)), some (vI a)] [] s = some (.inr 0, (s.1, s.2.1, s.2.2.1 + 1, s.2.2.2))) ∧ ∀ s : nS, s.2.1 1 65 = m 1 65 → R1 xs nx 233 0 [some (vR 1 (some 0)), some (vI a)] [] s = some (.inl (some (vI 0)), s)) ∨
    ∃ k, k < fN c 28 ∧ a = iN k ∧ mIn a 5 = true ∧ a.toNatClampNeg = k ∧ (∀ s : nS, fL s.1 18 0 = fL c 18 0 → R1 xs nx 135 0 [some (vR 0 (some 0)), some (vI a)] [] s = some (.inl (some (vR 28 (some k))), s)) ∧ ∀ s : nS, s.2.1 1 65 = m 1 65 → R1 xs nx 233 0 [some (vR 1 (some 0)), some (vI a)] [] s = some (.inl (some (vI 1)), s) := by
  obtain ⟨hc, hu, hl⟩ := hJ.1.2.2.2.2.1
  rcases nIdx a (n := fN c 28) (by omega) with ⟨h1, h2⟩ | ⟨h1, h2, h3, k, hk, rfl⟩
  · refine Or.inl ⟨fun s hs => ?_, fun s hs => ?_⟩
    · rw [d_135_0, hs, hl, List.length_range]
      rcases h1 with h | ⟨h, h'⟩
      · rw [if_pos h]
      · rw [if_neg h, if_neg h']
    · rw [d_233_0, hs, hu, is174 h2]
      simp only [bI, true_or, if_true]
  · refine Or.inr ⟨k, hk, rfl, mIn_iff.mpr ⟨i32_pos (by omega), by rw [i32_nat (by omega)]; omega⟩, i32_nat (by omega), fun s hs => ?_, fun s hs => ?_⟩
    · rw [d_135_0, hs, hl, List.length_range, if_neg h1, if_pos h2, if_neg h1, i32_nat (by omega), List.getElem?_range hk]
      rfl
    · rw [d_233_0, hs, hu, in174 h1 h3]
      simp only [bI, or_true, if_true]
theorem idx92 (a : Int32) : ((∀ s, R1 xs nx 92 0 [some (vR 0 (some 0)), some (vI a)] [] s = some (.inr 0, (s.1, s.2.1, s.2.2.1 + 1, s.2.2.2))) ∧ ∀ s, R1 xs nx 179 0 [some (vI a)] [] s = some (.inl (some (vI 0)), s)) ∨
    ∃ k, k < 4 ∧ a = iN k ∧ mIn a 4 = true ∧ a.toNatClampNeg = k ∧ (∀ s, R1 xs nx 92 0 [some (vR 0 (some 0)), some (vI a)] [] s = some (.inl (some (vR 22 (some k))), s)) ∧ ∀ s, R1 xs nx 179 0 [some (vI a)] [] s = some (.inl (some (vI 1)), s) := by
  rcases nIdx a (n := 4) (by omega) with ⟨h1, h2⟩ | ⟨h1, h2, h3, k, hk, rfl⟩
  · refine Or.inl ⟨fun s => ?_, fun s => ?_⟩
    · rw [d_92_0]
      rcases h1 with h | ⟨h, h'⟩
      · rw [if_pos h]
      · rw [if_neg h, if_neg (show ¬ a < (4 : Int32) from h')]
    · rw [d_179_0, is174 (b := 3) h2]
      simp only [bI, true_or, if_true]
  · have hin : mIn (iN k) 4 = true := mIn_iff.mpr ⟨i32_pos (by omega), by rw [i32_nat (by omega)]; omega⟩
    refine Or.inr ⟨k, hk, rfl, hin, i32_nat (by omega), fun s => ?_, fun s => ?_⟩
    · rw [d_92_0, if_neg h1, if_pos (show iN k < (4 : Int32) from h2), if_pos hin, i32_nat (by omega)]
    · rw [d_179_0, in174 h1 (b := 3) h3]
      simp only [bI, or_true, if_true]
/-- a question changes nothing but what was thrown -/
theorem nd86 {i : Nat} {c : nC} {m : nM} (hJ : nJ κ i c m) {a : Int32} {s s' : nS} (hs : fL s.1 14 0 = fL c 14 0) (h : R1 xs nx 86 0 [some (vR 0 (some 0)), some (vI a)] [] s = some (.inr 0, s')) : ¬ ∃ k, k < fN c 23 ∧ a = iN k := by
  rintro ⟨k, hk, rfl⟩
  obtain ⟨hc, hu, hl⟩ := hJ.1.1
  rw [d_86_0] at h
  rw [hs, hl, List.length_range, if_neg (show ¬ iN k < 0 from i32_pos (by omega)), if_pos ((iN_lt (by omega) (by omega)).mpr hk), if_neg (show ¬ iN k < 0 from i32_pos (by omega)), i32_nat (by omega), List.getElem?_range hk] at h
  have h : (some (.inl (some (vR 23 (some k))), s) : Option nOut) = some (.inr 0, s') := h
  cases h
theorem nd90 {i : Nat} {c : nC} {m : nM} (hJ : nJ κ i c m) {a : Int32} {s s' : nS} (hs : fL s.1 15 0 = fL c 15 0) (h : R1 xs nx 90 0 [some (vR 0 (some 0)), some (vI a)] [] s = some (.inr 0, s')) : ¬ ∃ k, k < fN c 24 ∧ a = iN k := by
  rintro ⟨k, hk, rfl⟩
  obtain ⟨hc, hu, hl⟩ := hJ.1.2.1
  rw [d_90_0] at h
  rw [hs, hl, List.length_range, if_neg (show ¬ iN k < 0 from i32_pos (by omega)), if_pos ((iN_lt (by omega) (by omega)).mpr hk), if_neg (show ¬ iN k < 0 from i32_pos (by omega)), i32_nat (by omega), List.getElem?_range hk] at h
  have h : (some (.inl (some (vR 24 (some k))), s) : Option nOut) = some (.inr 0, s') := h
  cases h
theorem nd97 {i : Nat} {c : nC} {m : nM} (hJ : nJ κ i c m) {a : Int32} {s s' : nS} (hs : fL s.1 16 0 = fL c 16 0) (h : R1 xs nx 97 0 [some (vR 0 (some 0)), some (vI a)] [] s = some (.inr 0, s')) : ¬ ∃ k, k < fN c 26 ∧ a = iN k := by
  rintro ⟨k, hk, rfl⟩
  obtain ⟨hc, hu, hl⟩ := hJ.1.2.2.1
  rw [d_97_0] at h
  rw [hs, hl, List.length_range, if_neg (show ¬ iN k < 0 from i32_pos (by omega)), if_pos ((iN_lt (by omega) (by omega)).mpr hk), if_neg (show ¬ iN k < 0 from i32_pos (by omega)), i32_nat (by omega), List.getElem?_range hk] at h
  have h : (some (.inl (some (vR 26 (some k))), s) : Option nOut) = some (.inr 0, s') := h
  cases h
theorem nd151 {i : Nat} {c : nC} {m : nM} (hJ : nJ κ i c m) {a : Int32} {s s' : nS} (hs : fL s.1 17 0 = fL c 17 0) (h : R1 xs nx 151 0 [some (vR 0 (some 0)), some (vI a)] [] s = some (.inr 0, s')) : ¬ ∃ k, k < fN c 27 ∧ a = iN k := by
  rintro ⟨k, hk, rfl⟩
  obtain ⟨hc, hu, hl⟩ := hJ.1.2.2.2.1
  rw [d_151_0] at h
  rw [hs, hl, List.length_range, if_neg (show ¬ iN k < 0 from i32_pos (by omega)), if_pos ((iN_lt (by omega) (by omega)).mpr hk), if_neg (show ¬ iN k < 0 from i32_pos (by omega)), i32_nat (by omega), List.getElem?_range hk] at h
  have h : (some (.inl (some (vR 27 (some k))), s) : Option nOut) = some (.inr 0, s') := h
  cases h
theorem nd135 {i : Nat} {c : nC} {m : nM} (hJ : nJ κ i c m) {a : Int32} {s s' : nS} (hs : fL s.1 18 0 = fL c 18 0) (h : R1 xs nx 135 0 [some (vR 0 (some 0)), some (vI a)] [] s = some (.inr 0, s')) : ¬ ∃ k, k < fN c 28 ∧ a = iN k := by
  rintro ⟨k, hk, rfl⟩
  obtain ⟨hc, hu, hl⟩ := hJ.1.2.2.2.2.1
  rw [d_135_0] at h
  rw [hs, hl, List.length_range, if_neg (show ¬ iN k < 0 from i32_pos (by omega)), if_pos ((iN_lt (by omega) (by omega)).mpr hk), if_neg (show ¬ iN k < 0 from i32_pos (by omega)), i32_nat (by omega), List.getElem?_range hk] at h
  have h : (some (.inl (some (vR 28 (some k))), s) : Option nOut) = some (.inr 0, s') := h
  cases h
theorem nd92 {a : Int32} {s s' : nS} (h : R1 xs nx 92 0 [some (vR 0 (some 0)), some (vI a)] [] s = some (.inr 0, s')) : ¬ ∃ d, d < 4 ∧ a = iN d := by
  rintro ⟨d, hd, rfl⟩
  rw [d_92_0, if_neg (show ¬ iN d < 0 from i32_pos (by omega)), if_pos (show iN d < (4 : Int32) from (iN_lt (b := 4) (by omega) (by omega)).mpr (by omega)), if_pos (iN_in hd (by decide)), i32_nat (by omega)] at h
  cases h
theorem nAsk {P : nC → nM → kP → nC → nM → Int32 → Prop} {F : nC → nM → Nat → Prop} {i : Nat} {hs : List (Nat × Int32)} {c m : nS → Option nOut} {s : nS} {v : Int32} (hJ : nJ κ i s.1 s.2.1) (hc : c s = some (.inl (some (vI v)), s)) (hm : ∀ z, m (s.1, s.2.1, z) = some (.inl (some (vI v)), (s.1, uM 1 76 0 s.2.1, z))) (hP : P s.1 s.2.1 κ s.1 (uM 1 76 0 s.2.1) v := by trivial) (hi : i % 100000 < 99999 := by omega) :
    ∃ (κ' : kP) (c' : nC) (m' : nM) (v : Int32), nJ κ' (i + 1) c' m' ∧ (∀ z, m (c', s.2.1, z) = some (.inl (some (vI v)), (c', m', z))) ∧
  ((c s = some (.inl (some (vI v)), (c', s.2)) ∧ m' 1 76 = 0 ∧ P s.1 s.2.1 κ' c' m' v) ∨ ∃ E, c s = some (.inr E, (c', s.2.1, s.2.2.1 + 1, s.2.2.2)) ∧ nHl hs E = some (m' 1 76) ∧ m' 1 76 ≠ 0 ∧ c' = s.1 ∧ κ' = κ ∧ F s.1 s.2.1 E) :=
  nDone (c' := s.1) (nJ_76 hJ) hc hm uM_self hP
theorem op24 : ∀ i, i < 512 → nDoes κ pT pF i [] (fun s => R1 xs nx 143 0 [some (vR 0 (some 0))] [] s) (fun s => R1 xs nx 239 0 [some (vR 1 (some 0))] [] s) := by
  intro i hi s hJ
  exact nAsk (v := s.2.1 1 0) hJ (by simp only [d_143_0, (nJ_ck hJ).1]) (fun z => by simp only [d_239_0, d_173_0, bI])
theorem op36 : ∀ i, i < 512 → nDoes κ pT pF i [] (fun s => R1 xs nx 156 0 [some (vR 0 (some 0))] [] s) (fun s => R1 xs nx 251 0 [some (vR 1 (some 0))] [] s) := by
  intro i hi s hJ
  exact nAsk (v := s.2.1 1 69) hJ (by simp only [d_156_0, hJ.1.2.2.2.2.2.2.2]) (fun z => by simp only [d_251_0, d_173_0, bI])
theorem op25 : ∀ i, i < 512 → ∀ (a1 : Int32), nDoes κ pT pF i [(0, 1)] (fun s => R1 xs nx 144 0 [some (vR 0 (some 0)), some (vI a1)] [] s) (fun s => R1 xs nx 240 0 [some (vR 1 (some 0)), some (vI a1)] [] s) := by
  intro i hi a1 s hJ
  rcases idx97 (xs := xs) (nx := nx) hJ a1 with ⟨h1, h2⟩ | ⟨k, hk, ea, hin, en, h1, h2⟩
  · exact nFail (E := 0) (e := 1) (v := 0) hJ (by simp only [d_144_0, h1 s rfl, bR, hE]) (fun z => by simp only [d_240_0, h2 (s.1, s.2.1, z) rfl, bI, if_true, d_240_14, r172_1, n10, if_false]) rfl n10
  · have e := (hJ.2.2.2.2.2.2.2.1 k hk).1
    exact nAsk (v := s.2.1 66 k) hJ (by simp only [d_144_0, h1 s rfl, bR, ntg_self, nn_some, e]) (fun z => by simp only [d_240_0, h2 (s.1, s.2.1, z) rfl, bI, n10, if_false, d_240_14, r172_0, if_true, hin, en, uM_ne (show (66 : Nat) ≠ 1 by decide)])
theorem op26 : ∀ i, i < 512 → ∀ (a1 : Int32), nDoes κ pT pF i [(0, 1)] (fun s => R1 xs nx 145 0 [some (vR 0 (some 0)), some (vI a1)] [] s) (fun s => R1 xs nx 241 0 [some (vR 1 (some 0)), some (vI a1)] [] s) := by
  intro i hi a1 s hJ
  rcases idx97 (xs := xs) (nx := nx) hJ a1 with ⟨h1, h2⟩ | ⟨k, hk, ea, hin, en, h1, h2⟩
  · exact nFail (E := 0) (e := 1) (v := 0) hJ (by simp only [d_145_0, h1 s rfl, bR, hE]) (fun z => by simp only [d_241_0, h2 (s.1, s.2.1, z) rfl, bI, if_true, d_241_14, r172_1, n10, if_false]) rfl n10
  · have e := (hJ.2.2.2.2.2.2.2.1 k hk).2.1
    exact nAsk (v := s.2.1 67 k) hJ (by simp only [d_145_0, h1 s rfl, bR, ntg_self, nn_some, e]) (fun z => by simp only [d_241_0, h2 (s.1, s.2.1, z) rfl, bI, n10, if_false, d_241_14, r172_0, if_true, hin, en, uM_ne (show (67 : Nat) ≠ 1 by decide)])
theorem op34 : ∀ i, i < 512 → ∀ (a1 : Int32), nDoes κ pT pF i [(0, 1)] (fun s => R1 xs nx 154 0 [some (vR 0 (some 0)), some (vI a1)] [] s) (fun s => R1 xs nx 249 0 [some (vR 1 (some 0)), some (vI a1)] [] s) := by
  intro i hi a1 s hJ
  rcases idx92 (xs := xs) (nx := nx) a1 with ⟨h1, h2⟩ | ⟨k, hk, ea, hin, en, h1, h2⟩
  · exact nFail (E := 0) (e := 1) (v := 0) hJ (by simp only [d_154_0, h1, bR, hE]) (fun z => by simp only [d_249_0, h2, bI, if_true, d_249_13, r172_1, n10, if_false]) rfl n10
  · have e := hJ.2.2.2.2.2.2.2.2.2.2.2.2.2.2.1 k hk
    exact nAsk (v := s.2.1 90 k) hJ (by simp only [d_154_0, h1, bR, ntg_self, nn_some, e]) (fun z => by simp only [d_249_0, h2, bI, n10, if_false, d_249_13, r172_0, if_true, hin, en, uM_ne (show (90 : Nat) ≠ 1 by decide)])
theorem op30 : ∀ i, i < 512 → ∀ (a1 : Int32), nDoes κ pT pF i [(0, 1)] (fun s => R1 xs nx 149 0 [some (vR 0 (some 0)), some (vI a1), none] [] s) (fun s => R1 xs nx 245 0 [some (vR 1 (some 0)), some (vI a1)] [] s) := by
  intro i hi a1 s hJ
  rcases idx86 (xs := xs) (nx := nx) hJ a1 with ⟨h1, h2⟩ | ⟨k, hk, ea, hin, en, h1, h2⟩
  · exact nFail (E := 0) (e := 1) (v := 0) hJ (by simp only [d_149_0, h1 s rfl, bR, hE]) (fun z => by simp only [d_245_0, h2 (s.1, s.2.1, z) rfl, bI, if_true, d_245_14, r172_1, n10, if_false]) rfl n10
  · have e := (hJ.2.2.2.1.1 k hk).2.2.2.2.2.2.2.2.2.1
    have ck := (nJ_ck hJ).1
    by_cases h9 : s.2.1 44 k = -1
    · exact nAsk (v := -1) hJ (by simp only [d_149_0, h1 s rfl, bR, ntg_self, nn_some, e, h9, if_true]) (fun z => by simp only [d_245_0, h2 (s.1, s.2.1, z) rfl, bI, n10, if_false, d_245_14, r172_0, if_true, hin, en, uM_ne (show (44 : Nat) ≠ 1 by decide), h9])
    · exact nAsk (v := s.2.1 1 0 - s.2.1 44 k) hJ (by simp only [d_149_0, h1 s rfl, bR, ntg_self, nn_some, e, h9, if_false, ck]) (fun z => by simp only [d_245_0, h2 (s.1, s.2.1, z) rfl, bI, n10, if_false, d_245_14, r172_0, if_true, hin, en, uM_ne (show (44 : Nat) ≠ 1 by decide), h9, uM1_ne (show (0 : Nat) ≠ 76 by decide)])
end OPI
end KAP
