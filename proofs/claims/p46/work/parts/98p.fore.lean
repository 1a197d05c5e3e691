/-! ===== foreseen ===== -/
section KAP
variable {κ : kP}
section OQJ
variable {xs : Nat → Int32} {nx : Nat}
theorem tI_sub {a b : Int32} (h1 : -2147483648 ≤ a.toInt - b.toInt) (h2 : a.toInt - b.toInt < 2147483648) : (a - b).toInt = a.toInt - b.toInt := by
  rw [Int32.toInt_sub, Int.bmod_def]
  split <;> omega
theorem tI_mul {a b : Int32} (h1 : -2147483648 ≤ a.toInt * b.toInt) (h2 : a.toInt * b.toInt < 2147483648) : (a * b).toInt = a.toInt * b.toInt := by
  rw [Int32.toInt_mul, Int.bmod_def]
  generalize a.toInt * b.toInt = x at h1 h2
  split <;> omega
theorem xor_neg {x : Int32} : (x ^^^ 24) < 0 ↔ x.toInt < 0 := by
  rw [Int32.lt_iff_toInt_lt, show (0 : Int32).toInt = 0 from rfl]
  have h : ∀ y : Int32, y.toInt < 0 ↔ y.toBitVec.msb = true := by
    intro y
    show y.toBitVec.toInt < 0 ↔ _
    rw [BitVec.msb_eq_toInt]
    simp
  rw [h, h, Int32.toBitVec_xor, BitVec.msb_xor]
  rw [show (24 : Int32).toBitVec.msb = false from rfl, Bool.xor_false]
theorem fmod24 {a b : Nat} (ha : a < 100) (hb : b < 100000) :
    (if (iN a - iN b ^^^ 24) < 0 then if iN a - iN b - (iN a - iN b) / 24 * 24 = 0 then iN a - iN b - (iN a - iN b) / 24 * 24 else iN a - iN b - (iN a - iN b) / 24 * 24 + 24 else iN a - iN b - (iN a - iN b) / 24 * 24) = iN ((a + 100008 - b) % 24) := by
  have hx : (iN a - iN b).toInt = (a : Int) - b := by
    rw [tI_sub] <;> rw [Int32.toInt_ofNat_of_lt (by omega), Int32.toInt_ofNat_of_lt (by omega)] <;> omega
  generalize iN a - iN b = x at hx
  have h24 : (24 : Int32).toInt = 24 := rfl
  have hd : (x / 24).toInt = Int.tdiv ((a : Int) - b) 24 := by
    rw [Int32.toInt_div, hx, h24, Int.bmod_def]
    have := Int.tdiv_eq_ediv (a := (a : Int) - b) (b := 24); rw [show Int.sign 24 = 1 from rfl] at this
    split at this <;> split <;> omega
  have hq : (x - x / 24 * 24).toInt = ((a : Int) - b) - Int.tdiv ((a : Int) - b) 24 * 24 := by
    have := Int.tdiv_eq_ediv (a := (a : Int) - b) (b := 24); rw [show Int.sign 24 = 1 from rfl] at this
    rw [tI_sub] <;> rw [tI_mul] <;> rw [hd, h24] <;> (try rw [hx]) <;> (split at this <;> omega)
  have ht := Int.tdiv_eq_ediv (a := (a : Int) - b) (b := 24); rw [show Int.sign 24 = 1 from rfl] at ht
  have hres : (iN ((a + 100008 - b) % 24)).toInt = (((a + 100008 - b) % 24 : Nat) : Int) := Int32.toInt_ofNat_of_lt (by omega)
  have h0 : ∀ y : Int32, y = 0 ↔ y.toInt = 0 := fun y => by rw [← Int32.toInt_inj]; rfl
  by_cases hn : (a : Int) - b < 0
  · rw [if_pos (xor_neg.mpr (by rw [hx]; exact hn))]
    by_cases hz : x - x / 24 * 24 = 0
    · rw [if_pos hz, ← Int32.toInt_inj, hres, hq]
      have := (h0 _).mp hz
      rw [hq] at this
      split at ht <;> omega
    · rw [if_neg hz, ← Int32.toInt_inj, hres]
      have : ¬ (x - x / 24 * 24).toInt = 0 := fun y => hz ((h0 _).mpr y)
      rw [hq] at this
      rw [Int32.toInt_add, hq, h24, Int.bmod_def]
      split at ht <;> split <;> omega
  · rw [if_neg (fun z => hn (by rw [← hx]; exact xor_neg.mp z)), ← Int32.toInt_inj, hres, hq]
    split at ht <;> omega
theorem r282 {S h : Nat} (hS : S < 100) (hh : h < 100000) {s : nS} : R1 xs nx 282 0 [some (vI (iN S - iN h)), some (vI (24 : Int32)), none] [] s = some (.inl (some (vI (iN ((S + 100008 - h) % 24)))), s) := by
  have key := fmod24 hS hh
  rw [d_282_0, if_neg (by decide)]
  by_cases p : (iN S - iN h ^^^ 24) < 0
  · rw [if_pos p] at key ⊢
    by_cases q : iN S - iN h - (iN S - iN h) / 24 * 24 = 0
    · rw [if_pos q] at key ⊢
      rw [key]
    · rw [if_neg q] at key ⊢
      rw [key]
  · rw [if_neg p] at key ⊢
    rw [key]
theorem wait24 {S h : Nat} (hS : S < 24) (hh : h < 100000) : ((iN S - (iN h - iN h / 24 * 24)) + 24) - ((iN S - (iN h - iN h / 24 * 24)) + 24) / 24 * 24 = iN ((S + 100008 - h) % 24) := by
  have e1 : iN h - iN h / 24 * 24 = iN (h % 24) := iN_mod (b := 24) (by omega) (by omega)
  have e2 : (iN S - iN (h % 24)) + 24 = iN (S + 24 - h % 24) := by
    rw [← Int32.toInt_inj, Int32.toInt_add, tI_sub] <;> rw [iN_toInt (by omega), iN_toInt (by omega)]
    · rw [show (24 : Int32).toInt = 24 from rfl, iN_toInt (by omega), Int.bmod_def]
      split <;> omega
    · omega
    · omega
  rw [e1, e2, show iN (S + 24 - h % 24) - iN (S + 24 - h % 24) / 24 * 24 = iN ((S + 24 - h % 24) % 24) from iN_mod (b := 24) (by omega) (by omega)]
  congr 1
  omega
/-- when a van of a depot starts next -/
theorem start164 {i d h : Nat} {c : nC} {m : nM} (hJ : nJ κ i c m) (hd : d < 5) (hh : h < 90000) : ∃ x : Int32, (∀ z, R1 xs nx 164 0 [some (vR 0 (some 0)), some (vR 21 (some d)), some (vI (iN h)), none, none, none, none] [] (c, z) = some (.inl (some (vI x)), (c, z))) ∧
    ∀ c9 z, R1 xs nx 259 0 [some (vR 1 (some 0)), some (vI (iN d)), some (vI (iN h)), none, none, none] [] (c9, m, z) = some (.inl (some (vI x)), (c9, m, z)) := by
  obtain ⟨w1, w2, w3⟩ := hJ.1.2.2.2.1
  have hv := hJ.2.2.2.2.2.2.2.2.2.2.2.1.1
  have key : ∀ (n i : Nat) (best : Int32) (l5 l6 l7 : Option nV), i + n = fN c 27 → ∃ x : Int32, (∀ z, R1 xs nx 164 5 [some (vR 0 (some 0)), some (vR 21 (some d)), some (vI (iN h)), some (vI best), some (vI (iN i)), l5, l6] [] (c, z) = some (.inl (some (vI x)), (c, z))) ∧ ∀ c9 z, R1 xs nx 259 5 [some (vR 1 (some 0)), some (vI (iN d)), some (vI (iN h)), some (vI best), some (vI (iN i)), l7] [] (c9, m, z) = some (.inl (some (vI x)), (c9, m, z)) := by
    intro n
    induction n with
    | zero =>
      intro i best l5 l6 l7 e
      have : i = fN c 27 := by omega
      subst this
      have hn : ¬ iN (fN c 27) < iN (fN c 27) := by rw [iN_lt (by omega) (by omega)]; omega
      refine ⟨best, fun z => ?_, fun c9 z => ?_⟩
      · rw [d_164_5]
        dsimp only
        rw [w3, List.length_range, if_neg hn]
      · rw [d_259_5]
        dsimp only
        simp only [w2]
        rw [if_neg hn]
    | succ n ih =>
      intro i best l5 l6 l7 e
      have hi : i < fN c 27 := by omega
      obtain ⟨⟨v1, v2⟩, -, ⟨v3, S, -, v4, v5⟩, -⟩ := hv i hi
      have hlt : iN i < iN (fN c 27) := (iN_lt (by omega) (by omega)).mpr hi
      have hin : mIn (iN i) 6 = true := iN_in (by omega) (by omega)
      have en : (iN i).toNatClampNeg = i := i32_nat (by omega)
      have w24 := wait24 (S := S) (h := h) (by omega) (by omega)
      obtain ⟨y, ey⟩ : ∃ y : Int32, y = iN ((S + 100008 - h) % 24) := ⟨_, rfl⟩
      rw [← ey] at w24
      have r2 : ∀ s : nS, R1 xs nx 282 0 [some (vI (iN S - iN h)), some (vI (24 : Int32)), none] [] s = some (.inl (some (vI y)), s) := fun s => by rw [ey]; exact r282 (by omega) (by omega)
      by_cases q : fX c 27 i 1 = d
      · have qm : m 79 i = iN d := by rw [v2, q]
        by_cases b : best = -1
        · obtain ⟨x, t1, t2⟩ := ih (i + 1) (iN h + y) (some (vR 27 (some i))) (some (vI (iN h + y))) (some (vI (y))) (by omega)
          refine ⟨x, fun z => ?_, fun c9 z => ?_⟩
          · rw [d_164_5]
            dsimp only
            rw [w3, List.length_range, if_pos hlt, if_neg (iN_pos (by omega)), en, List.getElem?_range hi, nn_some, if_pos (by rw [q]), v3, v5, r2, bI_some, if_pos b, d_164_72, d_164_73, iN_add1]
            exact t1 z
          · rw [d_259_5]
            dsimp only
            simp only [w2]
            rw [if_pos hlt, if_pos hin, if_pos hin, en, if_pos qm, if_pos b, v5, w24, d_259_58, d_259_66, iN_add1]
            exact t2 c9 z
        · by_cases b2 : iN h + y < best
          · obtain ⟨x, t1, t2⟩ := ih (i + 1) (iN h + y) (some (vR 27 (some i))) (some (vI (iN h + y))) (some (vI (y))) (by omega)
            refine ⟨x, fun z => ?_, fun c9 z => ?_⟩
            · rw [d_164_5]
              dsimp only
              rw [w3, List.length_range, if_pos hlt, if_neg (iN_pos (by omega)), en, List.getElem?_range hi, nn_some, if_pos (by rw [q]), v3, v5, r2, bI_some, if_neg b, d_164_72, d_164_73, iN_add1, if_pos b2]
              exact t1 z
            · rw [d_259_5]
              dsimp only
              simp only [w2]
              simp only [en, v5, w24]
              rw [if_pos hlt, if_pos hin, if_pos hin, if_pos qm, if_neg b]
              refine (if_pos b2).trans ?_
              rw [d_259_58, d_259_66, iN_add1]
              exact t2 c9 z
          · obtain ⟨x, t1, t2⟩ := ih (i + 1) best (some (vR 27 (some i))) (some (vI (iN h + y))) (some (vI (y))) (by omega)
            refine ⟨x, fun z => ?_, fun c9 z => ?_⟩
            · rw [d_164_5]
              dsimp only
              rw [w3, List.length_range, if_pos hlt, if_neg (iN_pos (by omega)), en, List.getElem?_range hi, nn_some, if_pos (by rw [q]), v3, v5, r2, bI_some, if_neg b, d_164_72, d_164_73, iN_add1, if_neg b2]
              exact t1 z
            · rw [d_259_5]
              dsimp only
              simp only [w2]
              simp only [en, v5, w24]
              rw [if_pos hlt, if_pos hin, if_pos hin, if_pos qm, if_neg b]
              refine (if_neg b2).trans ?_
              rw [d_259_65, d_259_66, iN_add1]
              exact t2 c9 z
      · have qm : ¬ m 79 i = iN d := by rw [v2, iN_inj (by omega) (by omega)]; exact q
        obtain ⟨x, t1, t2⟩ := ih (i + 1) best (some (vR 27 (some i))) l6 (some (vI (y))) (by omega)
        refine ⟨x, fun z => ?_, fun c9 z => ?_⟩
        · rw [d_164_5]
          dsimp only
          rw [w3, List.length_range, if_pos hlt, if_neg (iN_pos (by omega)), en, List.getElem?_range hi, nn_some, if_neg (fun z => q (Option.some.inj z)), d_164_73, iN_add1]
          exact t1 z
        · rw [d_259_5]
          dsimp only
          simp only [w2]
          rw [if_pos hlt, if_pos hin, if_pos hin, en, if_neg qm, v5, w24, d_259_65, d_259_66, iN_add1]
          exact t2 c9 z
  obtain ⟨x, t1, t2⟩ := key (fN c 27) 0 (-1) none none none (Nat.zero_add _)
  refine ⟨x, fun z => ?_, fun c9 z => ?_⟩
  · rw [d_164_0]
    exact t1 z
  · rw [d_259_0]
    exact t2 c9 z
/-- when a lane's next trailer departs -/
theorem dep49 {i l h : Nat} {c : nC} {m : nM} (hJ : nJ κ i c m) (hl : l < fN c 23) (hh : h < 90000) : ∃ h', h' ≤ h + 148 ∧ (∀ z, R1 xs nx 49 0 [some (vR 23 (some l)), some (vI (iN h)), none] [] (c, z) = some (.inl (some (vI (iN h'))), (c, z))) ∧
    ∀ c9 z, R1 xs nx 260 0 [some (vR 1 (some 0)), some (vI (iN l)), some (vI (iN h)), none] [] (c9, m, z) = some (.inl (some (vI (iN h'))), (c9, m, z)) := by
  have h12 := hJ.1.1.1
  obtain ⟨-, -, -, -, -, ⟨f1, F, -, f2, f3⟩, ⟨e1, E, e2, e3, e4⟩, -⟩ := hJ.2.2.2.1.1 l hl
  have hin : mIn (iN l) 12 = true := iN_in (by omega) (by omega)
  have en : (iN l).toNatClampNeg = l := i32_nat (by omega)
  by_cases q : F < h
  · have q1 : iN F < iN h := (iN_lt (by omega) (by omega)).mpr q
    have p1 : (0 : Int32) < iN E := (iN_lt (a := 0) (by omega) (by omega)).mpr e2
    have p2 : ¬ iN E = 0 := fun z => by have := (iN_inj (b := 0) (by omega) (by omega)).mp z; omega
    have sb : iN h - iN F = iN (h - F) := i32_sub (by omega) (by omega)
    have md : iN (h - F) - iN (h - F) / iN E * iN E = iN ((h - F) % E) := iN_mod (by omega) (by omega)
    have hm := Nat.mod_lt (h - F) e2
    by_cases r : (h - F) % E = 0
    · have r1 : iN ((h - F) % E) = 0 := by rw [r]; rfl
      refine ⟨h, by omega, fun z => ?_, fun c9 z => ?_⟩
      · rw [d_49_0]
        dsimp only
        rw [f1, f3, e1, e4, if_pos q1, if_pos p1, if_neg p2, sb, md, if_pos r1]
      · rw [d_260_0, if_pos hin, en]
        dsimp only
        simp only [f3, e4]
        rw [if_pos q1, if_pos hin, if_pos hin, if_neg p2, sb, md, if_pos r1]
    · have r1 : ¬ iN ((h - F) % E) = 0 := fun z => r ((iN_inj (b := 0) (by omega) (by omega)).mp z)
      have fin : iN h + iN E - iN ((h - F) % E) = iN (h + E - (h - F) % E) := by rw [show iN h + iN E = iN (h + E) from i32_add]; exact i32_sub (by omega) (by omega)
      refine ⟨h + E - (h - F) % E, by omega, fun z => ?_, fun c9 z => ?_⟩
      · rw [d_49_0]
        dsimp only
        rw [f1, f3, e1, e4, if_pos q1, if_pos p1, if_neg p2, sb, md, if_neg r1, fin]
      · rw [d_260_0, if_pos hin, en]
        dsimp only
        simp only [f3, e4]
        rw [if_pos q1, if_pos hin, if_pos hin, if_neg p2, sb, md, if_neg r1, if_pos hin, fin]
  · have q1 : ¬ iN F < iN h := fun z => q ((iN_lt (by omega) (by omega)).mp z)
    refine ⟨F, by omega, fun z => ?_, fun c9 z => ?_⟩
    · rw [d_49_0]
      dsimp only
      rw [f1, f3, if_neg q1, if_neg q1]
    · rw [d_260_0, if_pos hin, en]
      dsimp only
      simp only [f3]
      rw [if_neg q1, if_pos hin]
/-- a parcel is stopped at the customs of a lane -/
theorem stp103 {i l k : Nat} {c : nC} {m : nM} (hJ : nJ κ i c m) (hl : l < fN c 23) (hk : k < fN c 26) : ∃ b : Int32, (∀ z, R1 xs nx 103 0 [some (vR 23 (some l)), some (vR 26 (some k))] [] (c, z) = some (.inl (some (vI b)), (c, z))) ∧
    ∀ c9 z, R1 xs nx 261 0 [some (vR 1 (some 0)), some (vI (iN k)), some (vI (iN l))] [] (c9, m, z) = some (.inl (some (vI b)), (c9, m, z)) := by
  have h12 := hJ.1.1.1
  have h40 := k40 hJ hk
  obtain ⟨-, -, -, ⟨f1, -⟩, -⟩ := hJ.2.2.2.1.1 l hl
  obtain ⟨-, -, -, -, -, -, ⟨z1, -⟩, -, ⟨z3, -⟩, -⟩ := hJ.2.2.2.2.2.1 k hk
  have hin : mIn (iN l) 12 = true := iN_in (by omega) (by omega)
  have en : (iN l).toNatClampNeg = l := i32_nat (by omega)
  have kin : mIn (iN k) 40 = true := iN_in40 h40
  have ken : (iN k).toNatClampNeg = k := i32_nat (by omega)
  by_cases p1 : m 38 l = 0
  · refine ⟨0, fun z => ?_, fun c9 z => ?_⟩
    · rw [d_103_0]
      dsimp only
      rw [f1, if_pos p1]
    · rw [d_261_0, if_pos hin, en]
      dsimp only
      rw [if_pos p1]
  · by_cases p2 : 0 < m 55 k
    · by_cases p3 : m 64 k = 0
      · refine ⟨1, fun z => ?_, fun c9 z => ?_⟩
        · rw [d_103_0]
          dsimp only
          rw [f1, if_neg p1, z1, if_pos p2, z3, if_pos p3]
        · rw [d_261_0, if_pos hin, en]
          dsimp only
          rw [if_neg p1, if_pos kin, ken, if_pos p2, if_pos kin, if_pos p3]
      · refine ⟨0, fun z => ?_, fun c9 z => ?_⟩
        · rw [d_103_0]
          dsimp only
          rw [f1, if_neg p1, z1, if_pos p2, z3, if_neg p3]
        · rw [d_261_0, if_pos hin, en]
          dsimp only
          rw [if_neg p1, if_pos kin, ken, if_pos p2, if_pos kin, if_neg p3]
    · refine ⟨0, fun z => ?_, fun c9 z => ?_⟩
      · rw [d_103_0]
        dsimp only
        rw [f1, if_neg p1, z1, if_neg p2]
      · rw [d_261_0, if_pos hin, en]
        dsimp only
        rw [if_neg p1, if_pos kin, ken, if_neg p2]
theorem bR_some {t : Nat} {o : Option Nat} {s : nS} {K : Option Nat → nS → Option nOut} {h : Nat → nS → Option nOut} : bR t (some (.inl (some (vR t o)), s)) K h = K o s := by
  show ntg t t _ = _
  rw [ntg_self]
/-- the lane that the plan names -/
theorem pl46 {i d D h : Nat} {c : nC} {m : nM} (hJ : nJ κ i c m) (hd : d < 5) (hD : D < 5) (hh : h < 90000) : ∃ x : Nat, x < 2 ∧ (∀ s : nS, R1 xs nx 111 0 [some (vI (iN h))] [] s = some (.inl (some (vI (iN x))), s)) ∧
    (∀ z, R1 xs nx 46 0 [some (vR 21 (some d)), some (vR 21 (some D)), some (vI (iN x)), none] [] (c, z) = some (.inl (some (vR 23 (fP c 4 d (2 * D + x)))), (c, z))) ∧
    ∀ s : nS, R1 xs nx 185 0 [some (vI (iN d)), some (vI (iN D)), some (vI ((iN h - iN h / 24 * 24) / 12))] [] s = some (.inl (some (vI (iN (10 * d + (2 * D + x))))), s) := by
  have md : iN h - iN h / 24 * 24 = iN (h % 24) := iN_mod (b := 24) (by omega) (by omega)
  have hx : h % 24 < 24 := Nat.mod_lt _ (by decide)
  have dv : iN (h % 24) / 12 = iN (h % 24 / 12) := iN_div (b := 12) (by omega) (by omega)
  have e46 : ∀ x, x < 2 → (2 : Int32) * iN D + iN x = iN (2 * D + x) := fun x _ => by rw [show (2 : Int32) * iN D = iN (2 * D) from iN_mul (a := 2)]; exact i32_add
  refine ⟨h % 24 / 12, by omega, fun s => ?_, fun z => ?_, fun s => ?_⟩
  · rw [d_111_0, md]
    by_cases q : h % 24 < 12
    · rw [if_pos (show iN (h % 24) < (12 : Int32) from (iN_lt (b := 12) (by omega) (by omega)).mpr q), Nat.div_eq_of_lt q]
      rfl
    · rw [if_neg (fun (z : iN (h % 24) < (12 : Int32)) => q ((iN_lt (b := 12) (by omega) (by omega)).mp z)), show h % 24 / 12 = 1 by omega]
      rfl
  · rw [d_46_0, e46 _ (by omega), if_neg (iN_pos (by omega)), if_pos (show iN (2 * D + h % 24 / 12) < (10 : Int32) from (iN_lt (b := 10) (by omega) (by omega)).mpr (by omega)), if_pos (iN_in (by omega) (by omega)), i32_nat (by omega)]
  · rw [d_185_0, md, dv, show (5 : Int32) * iN d = iN (5 * d) from iN_mul (a := 5), show iN (5 * d) + iN D = iN (5 * d + D) from i32_add, show (2 : Int32) * iN (5 * d + D) = iN (2 * (5 * d + D)) from iN_mul (a := 2), show iN (2 * (5 * d + D)) + iN (h % 24 / 12) = iN (2 * (5 * d + D) + h % 24 / 12) from i32_add]
    congr 6
    omega
section FO
variable {i k D : Nat} {c : nC} {m : nM}
/-- one lane of the way -/
theorem way189 (hJ : nJ κ i c m) (hk : k < fN c 26) {l h a6 : Nat} (hl : l < fN c 23) (hh : h < 80000) (ha : a6 < 1000) : (∃ b : Int32, b ≠ 0 ∧ (∀ z, R1 xs nx 103 0 [some (vR 23 (some l)), some (vR 26 (some k))] [] (c, z) = some (.inl (some (vI b)), (c, z))) ∧ ∀ a4 c9 z, R1 xs nx 262 189 [some (vR 1 (some 0)), some (vI (iN k)), some (vI (iN D)), some (vI (iN l)), some (vI a4), some (vI (iN h)), some (vI (iN a6))] [] (c9, m, z) = some (.inl (some (vI (-1))), (c9, m, z))) ∨
    ∃ h', h' ≤ h + 148 ∧ (∀ z, R1 xs nx 103 0 [some (vR 23 (some l)), some (vR 26 (some k))] [] (c, z) = some (.inl (some (vI 0)), (c, z))) ∧ (∀ z, R1 xs nx 49 0 [some (vR 23 (some l)), some (vI (iN h)), none] [] (c, z) = some (.inl (some (vI (iN h'))), (c, z))) ∧
      ∀ a4 c9 z, R1 xs nx 262 189 [some (vR 1 (some 0)), some (vI (iN k)), some (vI (iN D)), some (vI (iN l)), some (vI a4), some (vI (iN h)), some (vI (iN a6))] [] (c9, m, z) = if 10 < a6 + 1 then some (.inl (some (vI (-1))), (c9, m, z)) else R1 xs nx 262 153 [some (vR 1 (some 0)), some (vI (iN k)), some (vI (iN D)), some (vI (-1)), some (vI (iN (fX c 23 l 2))), some (vI (iN h' + fI c 23 l 3)), some (vI (iN (a6 + 1)))] [] (c9, m, z) := by
  have h12 := hJ.1.1.1
  have hin : mIn (iN l) 12 = true := iN_in (by omega) (by omega)
  have en : (iN l).toNatClampNeg = l := i32_nat (by omega)
  obtain ⟨b, b1, b2⟩ := stp103 (xs := xs) (nx := nx) hJ hl hk
  obtain ⟨h', w1, w2, w3⟩ := dep49 (xs := xs) (nx := nx) hJ hl (show h < 90000 by omega)
  obtain ⟨-, ⟨-, x2⟩, ⟨x3, -⟩, -⟩ := hJ.2.2.2.1.1 l hl
  have hm1 : ¬ iN l = -1 := iN_ne1 (by omega)
  have hlt : ((10 : Int32) < iN (a6 + 1) ↔ 10 < a6 + 1) := iN_lt (a := 10) (by omega) (by omega)
  by_cases hb : b = 0
  · subst hb
    refine Or.inr ⟨h', w1, b1, w2, fun a4 c9 z => ?_⟩
    rw [d_262_189, if_neg hm1, iN_add1]
    by_cases q : 10 < a6 + 1
    · rw [if_pos (hlt.mpr q), if_pos q]
    · rw [if_neg (fun z => q (hlt.mp z)), if_neg q, b2 c9 z, bI_some, if_pos rfl, w3 c9 z, bI_some, if_pos hin, if_pos hin, en]
      dsimp only
      rw [x2, x3]
  · refine Or.inl ⟨b, hb, b1, fun a4 c9 z => ?_⟩
    rw [d_262_189, if_neg hm1, iN_add1]
    by_cases q : 10 < a6 + 1
    · rw [if_pos (hlt.mpr q)]
    · rw [if_neg (fun z => q (hlt.mp z)), b2 c9 z, bI_some, if_neg hb]
def wP (xs : Nat → Int32) (nx : Nat) (k D : Nat) (c : nC) (m : nM) (q2 : Option Nat) (a3 a4 : Int32) (a8 d h : Nat) (l9 : Option nV) : Prop := ∃ x : Int32,
    (∀ z, R1 xs nx 165 16 [some (vR 0 (some 0)), some (vR 26 (some k)), some (vR 21 q2), some (vI a3), some (vI a4), some (vR 21 (some D)), some (vR 21 (some d)), some (vI (iN h)), some (vI (iN a8)), l9] [] (c, z) = some (.inl (some (vI x)), (c, z))) ∧
    ∀ c9 z, R1 xs nx 262 153 [some (vR 1 (some 0)), some (vI (iN k)), some (vI (iN D)), some (vI (-1)), some (vI (iN d)), some (vI (iN h)), some (vI (iN a8))] [] (c9, m, z) = some (.inl (some (vI x)), (c9, m, z))
theorem wayStep (hJ : nJ κ i c m) (hk : k < fN c 26) (hD : D < 5) {q2 : Option Nat} {a3 a4 : Int32} {a8 d h : Nat} {l9 : Option nV} (h8 : a8 ≤ 10) (hd : d < 5) (hh : h ≤ 1000 + 172 * a8)
    (next : a8 + 1 ≤ 10 → ∀ d' h' l9', d' < 5 → h' ≤ 1000 + 172 * (a8 + 1) → wP xs nx k D c m q2 a3 a4 (a8 + 1) d' h' l9') : wP xs nx k D c m q2 a3 a4 a8 d h l9 := by
  have h40 := k40 hJ hk
  have kin : mIn (iN k) 40 = true := iN_in40 h40
  have ken : (iN k).toNatClampNeg = k := i32_nat (by omega)
  have n8 : ¬ (10 : Int32) < iN a8 := fun z => by have := (iN_lt (a := 10) (by omega) (by omega)).mp z; omega
  by_cases q : d = D
  · subst q
    have y15 := (hJ.2.2.2.2.2.1 k hk).2.2.2.2.2.2.2.2.2.2.2.2.2.2.1
    cases hq : fP c 26 k 11 with
    | none =>
      rw [hq] at y15
      have y15 : m 60 k = -1 := y15
      obtain ⟨x, t1, t2⟩ := start164 (xs := xs) (nx := nx) hJ hd (show h < 90000 by omega)
      refine ⟨x, fun z => ?_, fun c9 z => ?_⟩
      · rw [d_165_16, nz_some, if_neg n8, if_pos rfl, hq, nz_none, t1 z, bI_some]
      · rw [d_262_153, if_pos rfl, if_pos rfl, if_pos kin, ken, if_pos y15, t2 c9 z, bI_some]
    | some a =>
      rw [hq] at y15
      obtain ⟨ha, y60⟩ : a < fN c 24 ∧ m 60 k = iN a := y15
      have hA := hJ.1.2.1.1
      have hne : ¬ m 60 k = -1 := by rw [y60]; exact iN_ne1 (by omega)
      refine ⟨-1, fun z => ?_, fun c9 z => ?_⟩
      · rw [d_165_16, nz_some, if_neg n8, if_pos rfl, hq, nz_some]
      · rw [d_262_153, if_pos rfl, if_pos rfl, if_pos kin, ken, if_neg hne]
  · have qs : ¬ (some d : Option Nat) = some D := fun z => q (Option.some.inj z)
    have qi : ¬ iN d = iN D := by rw [iN_inj (by omega) (by omega)]; exact q
    obtain ⟨x, x2, p1, p2, p3⟩ := pl46 (xs := xs) (nx := nx) hJ hd hD (show h < 90000 by omega)
    have hln := (hJ.2.2.1 d hd).2.2.2.2.2 (2 * D + x) (by omega)
    have i50 : mIn (iN (10 * d + (2 * D + x))) 50 = true := iN_in (by omega) (by omega)
    have n50 : (iN (10 * d + (2 * D + x))).toNatClampNeg = 10 * d + (2 * D + x) := i32_nat (by omega)
    cases ho : fP c 4 d (2 * D + x) with
    | none =>
      rw [ho] at hln
      have hln : m 34 (10 * d + (2 * D + x)) = -1 := hln
      refine ⟨-1, fun z => ?_, fun c9 z => ?_⟩
      · rw [d_165_16, nz_some, if_neg n8, if_neg qs, p1, bI_some, nn_some, p2 z, bR_some, ho, nz_none]
      · rw [d_262_153, if_pos rfl, if_neg qi, d_262_164, if_pos rfl, p3, bI_some, if_pos i50, n50]
        dsimp only
        rw [hln, d_262_189, if_pos rfl]
    | some l =>
      rw [ho] at hln
      obtain ⟨hl, -, e34⟩ : l < fN c 23 ∧ fX c 23 l 1 = d ∧ m 34 (10 * d + (2 * D + x)) = iN l := hln
      have c1 : ∀ z, R1 xs nx 165 16 [some (vR 0 (some 0)), some (vR 26 (some k)), some (vR 21 q2), some (vI a3), some (vI a4), some (vR 21 (some D)), some (vR 21 (some d)), some (vI (iN h)), some (vI (iN a8)), l9] [] (c, z) = bI (R1 xs nx 103 0 [some (vR 23 (some l)), some (vR 26 (some k))] [] (c, z)) (fun x7 s6 => if x7 = 0 then nn (some l) fun k8 => bI (R1 xs nx 49 0 [some (vR 23 (some k8)), some (vI (iN h)), none] [] s6) (fun x10 s9 => nn (some l) fun k11 => nn (some l) fun k12 => R1 xs nx 165 16 [some (vR 0 (some 0)), some (vR 26 (some k)), some (vR 21 q2), some (vI a3), some (vI a4), some (vR 21 (some D)), some (vR 21 (some (fX s9.1 23 k12 2))), some (vI (x10 + (fI s9.1 23 k11 3))), some (vI (iN a8 + (1 : Int32))), some (vR 23 (some l))] [] s9) hE else some (.inl (some (vI (-1 : Int32))), s6)) hE := by
        intro z
        rw [d_165_16, nz_some, if_neg n8, if_neg qs, p1, bI_some, nn_some, p2 z, bR_some, ho, nz_some]
      have c2 : ∀ c9 z, R1 xs nx 262 153 [some (vR 1 (some 0)), some (vI (iN k)), some (vI (iN D)), some (vI (-1)), some (vI (iN d)), some (vI (iN h)), some (vI (iN a8))] [] (c9, m, z) = R1 xs nx 262 189 [some (vR 1 (some 0)), some (vI (iN k)), some (vI (iN D)), some (vI (iN l)), some (vI (iN d)), some (vI (iN h)), some (vI (iN a8))] [] (c9, m, z) := by
        intro c9 z
        rw [d_262_153, if_pos rfl, if_neg qi, d_262_164, if_pos rfl, p3, bI_some, if_pos i50, n50]
        dsimp only
        rw [e34]
      obtain ⟨-, ⟨x5, -⟩, ⟨x3, H, -, H2, H3⟩, -⟩ := hJ.2.2.2.1.1 l hl
      rcases way189 (D := D) (xs := xs) (nx := nx) hJ hk hl (show h < 80000 by omega) (show a8 < 1000 by omega) with ⟨b, b0, b1, b2⟩ | ⟨h', w1, w2, w3, w4⟩
      · refine ⟨-1, fun z => ?_, fun c9 z => ?_⟩
        · rw [c1, b1 z, bI_some, if_neg b0]
        · rw [c2, b2]
      · have eH : iN h' + fI c 23 l 3 = iN (h' + H) := by rw [x3, H3]; exact i32_add
        by_cases q8 : 10 < a8 + 1
        · have n8' : (10 : Int32) < iN (a8 + 1) := (iN_lt (a := 10) (by omega) (by omega)).mpr q8
          refine ⟨-1, fun z => ?_, fun c9 z => ?_⟩
          · rw [c1, w2 z, bI_some, if_pos rfl, nn_some, w3 z, bI_some, nn_some, nn_some]
            dsimp only
            rw [eH, iN_add1, d_165_16, nz_some, if_pos n8']
          · rw [c2, w4, if_pos q8]
        · obtain ⟨x, t1, t2⟩ := next (by omega) (fX c 23 l 2) (h' + H) (some (vR 23 (some l))) x5 (by omega)
          refine ⟨x, fun z => ?_, fun c9 z => ?_⟩
          · rw [c1, w2 z, bI_some, if_pos rfl, nn_some, w3 z, bI_some, nn_some, nn_some]
            dsimp only
            rw [eH, iN_add1]
            exact t1 z
          · rw [c2, w4, if_neg q8, eH]
            exact t2 c9 z
/-- the way of a parcel, from a depot on -/
theorem way165 (hJ : nJ κ i c m) (hk : k < fN c 26) (hD : D < 5) {q2 : Option Nat} {a3 a4 : Int32} : ∀ (n a8 d h : Nat) (l9 : Option nV), a8 + n = 10 → d < 5 → h ≤ 1000 + 172 * a8 → wP xs nx k D c m q2 a3 a4 a8 d h l9 := by
  intro n
  induction n with
  | zero =>
    intro a8 d h l9 e hd hh
    exact wayStep hJ hk hD (by omega) hd hh (fun z => by omega)
  | succ n ih =>
    intro a8 d h l9 e hd hh
    exact wayStep hJ hk hD (by omega) hd hh (fun z d' h' l9' hd' hh' => ih (a8 + 1) d' h' l9' (by omega) hd' hh')
end FO
theorem op42 : ∀ i, i < 512 → ∀ (a1 : Int32), nDoes κ pT pF i [(0, 1)] (fun s => R1 xs nx 169 0 [some (vR 0 (some 0)), some (vI a1), none] [] s) (fun s => R1 xs nx 262 0 [some (vR 1 (some 0)), some (vI a1), none, none, none, none, none] [] s) := by
  intro i hi a1 s hJ
  rcases idx97 (xs := xs) (nx := nx) hJ a1 with ⟨h1, h2⟩ | ⟨k, hk, ea, hin, en, h1, h2⟩
  · exact nFail (E := 0) (e := 1) (v := 0) hJ (by simp only [d_169_0, h1 s rfl, bR, hE]) (fun z => by simp only [d_262_0, h2 (s.1, s.2.1, z) rfl, bI, if_true, d_262_14, r172_1, n10, if_false]) rfl n10
  · subst ea
    have h40 := k40 hJ hk
    have hJ' := nJ_76 (x := 0) hJ
    obtain ⟨e0, n0, hn0, en0⟩ := kind8 hJ' hk
    obtain ⟨D, hD, eD, d1, d2⟩ := tgt64 (xs := xs) (nx := nx) (k := k) hJ' hk
    obtain ⟨ck, t, -, ht, et⟩ := nJ_ck hJ'
    have eclk : fI s.1 0 0 9 + 1 = iN (t + 1) := by rw [ck, et, iN_add1]
    have eclm : (uM 1 76 0 s.2.1) 1 0 + 1 = iN (t + 1) := by rw [et, iN_add1]
    generalize hm : uM 1 76 0 s.2.1 = m at hJ' e0 en0 d2 ck et eclm eD
    have q0 : fI s.1 9 k 1 = m 67 k := (hJ'.2.2.2.2.2.2.2.1 k hk).2.1
    obtain ⟨c14, -⟩ := hJ'.1
    have R0 : ∀ z, R1 xs nx 262 0 [some (vR 1 (some 0)), some (vI (iN k)), none, none, none, none, none] [] (s.1, s.2.1, z) = if m 66 k = 3 then bI (R1 xs nx 259 0 [some (vR 1 (some 0)), some (vI (iN D)), some (vI (iN (t + 1))), none, none, none] [] (s.1, m, z)) (fun x6 s5 => some (.inl (some (vI x6)), s5)) hE else if 2 < m 66 k then some (.inl (some (vI (-1))), (s.1, m, z)) else if m 66 k = 0 then R1 xs nx 262 81 [some (vR 1 (some 0)), some (vI (iN k)), some (vI (iN D)), none, none, none, none] [(vI (-1))] (s.1, m, z) else R1 xs nx 262 81 [some (vR 1 (some 0)), some (vI (iN k)), some (vI (iN D)), none, none, none, none] [(vI (m 67 k))] (s.1, m, z) := by
      intro z
      rw [d_262_0, h2 (s.1, s.2.1, z) rfl, bI_some, if_neg n10, d_262_14, r172_0, bI_some, if_pos rfl, hm, d2 s.1 m z rfl rfl rfl rfl, bI_some, if_pos hin, en]
      dsimp only
      rw [eclm]
      simp only [if_pos hin]
    have h12 := c14.1
    have R81 : ∀ z l, m 66 k ≠ 0 → R1 xs nx 262 81 [some (vR 1 (some 0)), some (vI (iN k)), some (vI (iN D)), none, none, none, none] [(vI (iN l))] (s.1, m, z) = R1 xs nx 262 101 [some (vR 1 (some 0)), some (vI (iN k)), some (vI (iN D)), some (vI (iN l)), none, none, none] [(vI (-1))] (s.1, m, z) := by
      intro z l h
      rw [d_262_81, if_pos hin, en]
      dsimp only
      rw [if_neg h]
    have C165 : ∀ z (d : Nat) (h a4 : Int32), R1 xs nx 165 0 [some (vR 0 (some 0)), some (vR 26 (some k)), some (vR 21 (some d)), some (vI h), some (vI a4), none, none, none, none, none] [] (s.1, z) = R1 xs nx 165 16 [some (vR 0 (some 0)), some (vR 26 (some k)), some (vR 21 (some d)), some (vI h), some (vI a4), some (vR 21 (some D)), some (vR 21 (some d)), some (vI h), some (vI a4), none] [] (s.1, z) := by
      intro z d h a4
      rw [d_165_0, d1 z, bR_some]
    have C166 : ∀ z l, l < fN s.1 23 → R1 xs nx 166 0 [some (vR 0 (some 0)), some (vI (iN l))] [] (s.1, z) = some (.inl (some (vR 23 (some l))), (s.1, z)) := by
      intro z l hl
      rw [d_166_0]
      dsimp only
      rw [c14.2.2, List.length_range, if_neg (iN_pos (by omega)), if_pos ((iN_lt (by omega) (by omega)).mpr hl), if_neg (iN_pos (by omega)), i32_nat (by omega), List.getElem?_range hl, nn_some]
    have hS := hJ'.2.2.2.2.2.2.2.1 k hk
    obtain ⟨-, -, ⟨B, -, B1, B2⟩, -, hS⟩ := hS
    have fin : (∃ x : Int32, (∀ z, R1 xs nx 169 0 [some (vR 0 (some 0)), some (vI (iN k)), none] [] (s.1, z) = some (.inl (some (vI x)), (s.1, z))) ∧ ∀ z, R1 xs nx 262 0 [some (vR 1 (some 0)), some (vI (iN k)), none, none, none, none, none] [] (s.1, s.2.1, z) = some (.inl (some (vI x)), (s.1, m, z))) := by
      by_cases k0 : m 66 k = 0
      · obtain ⟨d, l1, l2, l3⟩ : ∃ d, d < 5 ∧ m 67 k = iN d ∧ fP s.1 9 k 3 = some d := by
          rw [k0] at hS
          rcases hS with ⟨z, d, z1, z2, z3, -⟩ | ⟨z, -⟩ | ⟨z, -⟩ | ⟨z, -⟩ | ⟨z, -⟩ | ⟨z, -⟩ | ⟨z, -⟩ | ⟨z, -⟩ | ⟨z, -⟩
          · exact ⟨d, z1, z2, z3⟩
          all_goals exact absurd z (by decide)
        obtain ⟨x, t1, t2⟩ := way165 (xs := xs) (nx := nx) (q2 := some d) (a3 := iN (t + 1)) (a4 := 0) hJ' hk hD 10 0 d (t + 1) none rfl l1 (by omega)
        refine ⟨x, fun z => ?_, fun z => ?_⟩
        · rw [d_169_0, h1 (s.1, z) rfl, bR_some, nn_some]
          dsimp only
          rw [e0, if_pos k0, nn_some, l3, eclk, C165]
          rw [show (0 : Int32) = iN 0 from rfl] at *
          rw [t1 z, bI_some]
        · rw [R0, if_neg (by rw [k0]; decide), if_neg (by rw [k0]; decide), if_pos k0, d_262_81, if_pos hin, en]
          dsimp only
          rw [if_pos k0, if_pos hin, d_262_101, if_pos hin, en]
          dsimp only
          rw [if_neg (by rw [k0]; decide), eclm, l2]
          exact t2 s.1 z
      · by_cases k1 : m 66 k = 1
        · obtain ⟨l, l1, l2, l3⟩ := sty1 hJ' hk k1
          obtain ⟨-, ⟨x5, -⟩, ⟨x3, H, -, H2, H3⟩, -⟩ := hJ'.2.2.2.1.1 l l1
          obtain ⟨h49, -, w49, -⟩ := dep49 (xs := xs) (nx := nx) hJ' l1 (show t + 1 < 90000 by omega)
          have R1' : ∀ z, R1 xs nx 262 0 [some (vR 1 (some 0)), some (vI (iN k)), none, none, none, none, none] [] (s.1, s.2.1, z) = R1 xs nx 262 189 [some (vR 1 (some 0)), some (vI (iN k)), some (vI (iN D)), some (vI (iN l)), some (vI (-1)), some (vI (iN (t + 1))), some (vI (iN 0))] [] (s.1, m, z) := by
            intro z
            rw [R0, if_neg (by rw [k1]; decide), if_neg (by rw [k1]; decide), if_neg k0, l2, R81 z l k0, d_262_101, if_pos hin, en]
            dsimp only
            rw [if_neg (by rw [k1]; decide), eclm, d_262_153, if_neg (iN_ne1 (by omega)), d_262_164, if_neg (iN_ne1 (by omega))]
            rfl
          have C1' : ∀ z, R1 xs nx 169 0 [some (vR 0 (some 0)), some (vI (iN k)), none] [] (s.1, z) = bI (R1 xs nx 168 0 [some (vR 0 (some 0)), some (vR 26 (some k)), some (vR 23 (some l))] [] (s.1, z)) (fun x11 s10 => some (.inl (some (vI x11)), s10)) hE := by
            intro z
            rw [d_169_0, h1 (s.1, z) rfl, bR_some, nn_some]
            dsimp only
            rw [e0, if_neg k0, if_pos k1, nn_some, q0, l2, C166 z l l1, bR_some]
          rcases way189 (D := D) (xs := xs) (nx := nx) hJ' hk l1 (show t + 1 < 80000 by omega) (show 0 < 1000 by omega) with ⟨b, b0, b1, b2⟩ | ⟨h', w1, w2, w3, w4⟩
          · refine ⟨-1, fun z => ?_, fun z => ?_⟩
            · rw [C1', d_168_0, nz_some, nn_some]
              dsimp only
              rw [eclk, w49 z, bI_some, d_167_0, nz_some, b1 z, bI_some, if_neg b0, bI_some, bI_some]
            · rw [R1', b2]
          · obtain ⟨x, t1, t2⟩ := way165 (xs := xs) (nx := nx) (q2 := some (fX s.1 23 l 2)) (a3 := iN (h' + H)) (a4 := 1) hJ' hk hD 9 1 (fX s.1 23 l 2) (h' + H) none rfl x5 (by omega)
            have eH : iN h' + fI s.1 23 l 3 = iN (h' + H) := by rw [x3, H3]; exact i32_add
            refine ⟨x, fun z => ?_, fun z => ?_⟩
            · rw [C1', d_168_0, nz_some, nn_some]
              dsimp only
              rw [eclk, w3 z, bI_some, d_167_0, nz_some, w2 z, bI_some, if_pos rfl, nn_some, nn_some]
              dsimp only
              rw [eH, C165, show R1 xs nx 165 16 [some (vR 0 (some 0)), some (vR 26 (some k)), some (vR 21 (some (fX s.1 23 l 2))), some (vI (iN (h' + H))), some (vI 1), some (vR 21 (some D)), some (vR 21 (some (fX s.1 23 l 2))), some (vI (iN (h' + H))), some (vI 1), none] [] (s.1, z) = _ from t1 z, bI_some, bI_some, bI_some]
            · rw [R1', w4, if_neg (by omega), eH]
              exact t2 s.1 z
        · by_cases k2 : m 66 k = 2
          · obtain ⟨l, l1, l2, l69⟩ : ∃ l, l < fN s.1 23 ∧ m 67 k = iN l ∧ m 69 k = fI s.1 9 k 2 + fI s.1 23 l 3 := by
              rw [k2] at hS
              rcases hS with ⟨z, -⟩ | ⟨z, -⟩ | ⟨z, d, z1, z2, -, -, -, -, -, z3, -⟩ | ⟨z, -⟩ | ⟨z, -⟩ | ⟨z, -⟩ | ⟨z, -⟩ | ⟨z, -⟩ | ⟨z, -⟩
              · exact absurd z (by decide)
              · exact absurd z (by decide)
              · exact ⟨d, z1, z2, z3⟩
              all_goals exact absurd z (by decide)
            obtain ⟨-, ⟨x5, x6⟩, ⟨x3, H, -, H2, H3⟩, -⟩ := hJ'.2.2.2.1.1 l l1
            obtain ⟨b, b1, b2⟩ := stp103 (xs := xs) (nx := nx) hJ' l1 hk
            have eH : fI s.1 9 k 2 + fI s.1 23 l 3 = iN (B + H) := by rw [B2, x3, H3]; exact i32_add
            have lin : mIn (iN l) 12 = true := iN_in (by omega) (by omega)
            have len : (iN l).toNatClampNeg = l := i32_nat (by omega)
            have R1' : ∀ z, R1 xs nx 262 0 [some (vR 1 (some 0)), some (vI (iN k)), none, none, none, none, none] [] (s.1, s.2.1, z) = if b = 0 then R1 xs nx 262 153 [some (vR 1 (some 0)), some (vI (iN k)), some (vI (iN D)), some (vI (-1)), some (vI (iN (fX s.1 23 l 2))), some (vI (iN (B + H))), some (vI (iN 0))] [] (s.1, m, z) else some (.inl (some (vI (-1))), (s.1, m, z)) := by
              intro z
              rw [R0, if_neg (by rw [k2]; decide), if_neg (by rw [k2]; decide), if_neg k0, l2, R81 z l k0, d_262_101, if_pos hin, en]
              dsimp only
              rw [if_pos k2, b2 s.1 z, bI_some, if_pos hin, if_pos lin, len]
              dsimp only
              rw [x6, l69, eH]
              rfl
            have C1' : ∀ z, R1 xs nx 169 0 [some (vR 0 (some 0)), some (vI (iN k)), none] [] (s.1, z) = bI (R1 xs nx 167 0 [some (vR 0 (some 0)), some (vR 26 (some k)), some (vR 23 (some l)), some (vI (fI s.1 9 k 2)), some (vI 0)] [] (s.1, z)) (fun x11 s10 => some (.inl (some (vI x11)), s10)) hE := by
              intro z
              rw [d_169_0, h1 (s.1, z) rfl, bR_some, nn_some]
              dsimp only
              rw [e0, if_neg k0, if_neg k1, if_pos k2, nn_some, q0, l2, C166 z l l1, bR_some, nn_some]
            by_cases b0 : b = 0
            · subst b0
              obtain ⟨x, t1, t2⟩ := way165 (xs := xs) (nx := nx) (q2 := some (fX s.1 23 l 2)) (a3 := iN (B + H)) (a4 := 0) hJ' hk hD 10 0 (fX s.1 23 l 2) (B + H) none rfl x5 (by omega)
              refine ⟨x, fun z => ?_, fun z => ?_⟩
              · rw [C1', d_167_0, nz_some, b1 z, bI_some, if_pos rfl, nn_some, nn_some]
                dsimp only
                rw [eH, C165, show R1 xs nx 165 16 [some (vR 0 (some 0)), some (vR 26 (some k)), some (vR 21 (some (fX s.1 23 l 2))), some (vI (iN (B + H))), some (vI 0), some (vR 21 (some D)), some (vR 21 (some (fX s.1 23 l 2))), some (vI (iN (B + H))), some (vI 0), none] [] (s.1, z) = _ from t1 z, bI_some, bI_some]
              · rw [R1', if_pos rfl]
                exact t2 s.1 z
            · refine ⟨-1, fun z => ?_, fun z => ?_⟩
              · rw [C1', d_167_0, nz_some, b1 z, bI_some, if_neg b0, bI_some]
              · rw [R1', if_neg b0]
          · by_cases k3 : m 66 k = 3
            · obtain ⟨d, l1, l2, l3⟩ := sty3 hJ' hk k3
              obtain ⟨-, g2⟩ := (hJ'.2.2.2.2.2.2.2.2.1.2 k hk).1 k3
              obtain ⟨-, -, ⟨p1, p2⟩, ⟨p3, p4⟩, -⟩ := hJ'.2.2.2.2.2.1 k hk
              have hA := hJ'.2.2.2.2.1.1
              have hN := hJ'.1.2.1.1
              have edD : d = D := by
                rw [l2] at g2
                refine (iN_inj (by omega) (by omega)).mp (g2.trans ?_)
                rw [eD]
                by_cases q : m 63 k = 0
                · rw [if_pos q, if_pos q, p4, i32_nat (by omega), (hA _ p3).1.2]
                · rw [if_neg q, if_neg q, p2, i32_nat (by omega), (hA _ p1).1.2]
              obtain ⟨x, t1, t2⟩ := start164 (xs := xs) (nx := nx) hJ' hD (show t + 1 < 90000 by omega)
              refine ⟨x, fun z => ?_, fun z => ?_⟩
              · rw [d_169_0, h1 (s.1, z) rfl, bR_some, nn_some]
                dsimp only
                rw [e0, if_neg k0, if_neg k1, if_neg k2, if_pos k3, nn_some, l3, edD, eclk, t1 z, bI_some]
              · rw [R0, if_pos k3, t2 s.1 z, bI_some]
            · have k2' : 2 < m 66 k := by
                rw [en0] at k0 k1 k2 k3 ⊢
                have a0 : n0 ≠ 0 := fun z => k0 (by rw [z]; rfl)
                have a1 : n0 ≠ 1 := fun z => k1 (by rw [z]; rfl)
                have a2 : n0 ≠ 2 := fun z => k2 (by rw [z]; rfl)
                exact (iN_lt (a := 2) (by omega) (by omega)).mpr (by omega)
              refine ⟨-1, fun z => ?_, fun z => ?_⟩
              · rw [d_169_0, h1 (s.1, z) rfl, bR_some, nn_some]
                dsimp only
                rw [e0, if_neg k0, if_neg k1, if_neg k2, if_neg k3]
              · rw [R0, if_neg k3, if_pos k2']
    obtain ⟨x, f1, f2⟩ := fin
    exact nDoneU (v := x) (nJ_up hJ') (f1 s.2) f2 (by rw [← hm, uM_self])
end OQJ
end KAP
