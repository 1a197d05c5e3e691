/-! ===== foreseen: made by wip/p46/gen2/mk98zp.py ===== -/
/-- how long it is from an hour to a start -/
def stW (S h : Nat) : Nat := (S + 100008 - h) % 24
/-- a start of a van of a depot, not before an hour -/
def fsP (c : nC) (D h X : Nat) : Prop := h ≤ X ∧ X < 91000 ∧ ∃ v S, v < fN c 27 ∧ fX c 27 v 1 = D ∧ fI c 27 v 3 = iN S ∧ S < 24 ∧ X % 24 = S
def fsO (c : nC) (D h : Nat) (x : Int32) : Prop := x = -1 ∨ ∃ X, x = iN X ∧ fsP c D h X
def fsX (c : nC) (D h : Nat) (x : Int32) : Prop := (x = -1 ∧ ∀ v, v < fN c 27 → fX c 27 v 1 ≠ D) ∨ ∃ X, x = iN X ∧ fsP c D h X ∧ ∀ v S, v < fN c 27 → fX c 27 v 1 = D → fI c 27 v 3 = iN S → S < 24 → X ≤ h + stW S h
theorem fsX_O {c : nC} {D h : Nat} {x : Int32} (H : fsX c D h x) : fsO c D h x := by
  rcases H with ⟨h1, -⟩ | ⟨X, h1, h2, -⟩
  · exact Or.inl h1
  · exact Or.inr ⟨X, h1, h2⟩
theorem fsO_le {c : nC} {D h h' : Nat} {x : Int32} (hh : h' ≤ h) (H : fsO c D h x) : fsO c D h' x := by
  rcases H with h1 | ⟨X, h1, h2, h3⟩
  · exact Or.inl h1
  · exact Or.inr ⟨X, h1, by omega, h3⟩
section KAP
variable {κ : kP}
section FOR
variable {xs : Nat → Int32} {nx : Nat} {i : Nat} {c : nC} {m a : nM} {q : Nat} {J : Nat → Int64}
/-- when a van of a depot starts next -/
theorem st164 {d h : Nat} (hJ : nJ κ i c m) (hh : h < 90000) : ∃ x : Int32, (∀ z, R1 xs nx 164 0 [some (vR 0 (some 0)), some (vR 21 (some d)), some (vI (iN h)), none, none, none, none] [] (c, z) = some (.inl (some (vI x)), (c, z))) ∧ fsX c d h x := by
  obtain ⟨w1, w2, w3⟩ := hJ.1.2.2.2.1
  have hv := hJ.2.2.2.2.2.2.2.2.2.2.2.1.1
  have key : ∀ (n i : Nat) (best : Int32) (l5 l6 : Option nV), i + n = fN c 27 → ((best = -1 ∧ ∀ v, v < i → fX c 27 v 1 ≠ d) ∨ ∃ X, best = iN X ∧ fsP c d h X ∧ ∀ v S, v < i → fX c 27 v 1 = d → fI c 27 v 3 = iN S → S < 24 → X ≤ h + stW S h) → ∃ x : Int32, (∀ z, R1 xs nx 164 5 [some (vR 0 (some 0)), some (vR 21 (some d)), some (vI (iN h)), some (vI best), some (vI (iN i)), l5, l6] [] (c, z) = some (.inl (some (vI x)), (c, z))) ∧ fsX c d h x := by
    intro n
    induction n with
    | zero =>
      intro i best l5 l6 e hb
      have : i = fN c 27 := by omega
      subst this
      refine ⟨best, fun z => ?_, hb⟩
      rw [d_164_5]
      dsimp only
      rw [w3, List.length_range, if_neg (by rw [iN_lt (by omega) (by omega)]; omega)]
    | succ n ih =>
      intro i best l5 l6 e hb
      have hi : i < fN c 27 := by omega
      obtain ⟨⟨v1, v2⟩, -, ⟨v3, S, -, v4, v5⟩, -⟩ := hv i hi
      have hlt : iN i < iN (fN c 27) := (iN_lt (by omega) (by omega)).mpr hi
      have en : (iN i).toNatClampNeg = i := i32_nat (by omega)
      have ey : iN h + iN (stW S h) = iN (h + stW S h) := i32_add
      have r2 : ∀ s : nS, R1 xs nx 282 0 [some (vI (iN S - iN h)), some (vI (24 : Int32)), none] [] s = some (.inl (some (vI (iN (stW S h)))), s) := fun s => r282 (by omega) (by omega)
      have hw : stW S h < 24 := Nat.mod_lt _ (by decide)
      have hP : fsP c d h (h + stW S h) ∨ ¬ fX c 27 i 1 = d := by
        by_cases z : fX c 27 i 1 = d
        · refine Or.inl ⟨by omega, by omega, i, S, hi, z, v3.trans v5, by omega, ?_⟩
          unfold stW
          omega
        · exact Or.inr z
      by_cases z : fX c 27 i 1 = d
      · have hP := hP.resolve_right (fun w => w z)
        by_cases b : best = -1
        · have hb' : ∀ v, v < i → fX c 27 v 1 ≠ d := by
            rcases hb with ⟨-, y⟩ | ⟨X, y, yP⟩
            · exact y
            · rw [y] at b
              exact absurd b (iN_ne1 (by have := yP.1.2.1; omega))
          obtain ⟨x, t1, t2⟩ := ih (i + 1) (iN (h + stW S h)) (some (vR 27 (some i))) (some (vI (iN (h + stW S h)))) (by omega) (Or.inr ⟨_, rfl, hP, fun v S' hv' e1 e2 e3 => by
            by_cases ev : v = i
            · rw [ev, v3, v5] at e2
              rw [(iN_inj (by omega) (by omega)).mp e2]
              exact Nat.le_refl _
            · exact absurd e1 (hb' v (by omega))⟩)
          refine ⟨x, fun z' => ?_, t2⟩
          rw [d_164_5]
          dsimp only
          rw [w3, List.length_range, if_pos hlt, if_neg (iN_pos (by omega)), en, List.getElem?_range hi, nn_some, if_pos (by rw [z]), v3, v5, r2, bI_some, if_pos b, d_164_72, d_164_73, iN_add1, ey]
          exact t1 z'
        · obtain ⟨X, b1, b2, b3⟩ := hb.resolve_left (fun w => b w.1)
          have hX := b2.2.1
          by_cases bl : h + stW S h < X
          · have bl' : iN (h + stW S h) < best := by rw [b1]; exact (iN_lt (by omega) (by omega)).mpr bl
            obtain ⟨x, t1, t2⟩ := ih (i + 1) (iN (h + stW S h)) (some (vR 27 (some i))) (some (vI (iN (h + stW S h)))) (by omega) (Or.inr ⟨_, rfl, hP, fun v S' hv' e1 e2 e3 => by
              by_cases ev : v = i
              · rw [ev, v3, v5] at e2
                rw [(iN_inj (by omega) (by omega)).mp e2]
                exact Nat.le_refl _
              · have := b3 v S' (by omega) e1 e2 e3
                omega⟩)
            refine ⟨x, fun z' => ?_, t2⟩
            rw [d_164_5]
            dsimp only
            rw [w3, List.length_range, if_pos hlt, if_neg (iN_pos (by omega)), en, List.getElem?_range hi, nn_some, if_pos (by rw [z]), v3, v5, r2, bI_some, if_neg b, d_164_72, d_164_73, iN_add1, ey, if_pos bl']
            exact t1 z'
          · have bl' : ¬ iN (h + stW S h) < best := by rw [b1]; exact fun w => bl ((iN_lt (by omega) (by omega)).mp w)
            obtain ⟨x, t1, t2⟩ := ih (i + 1) best (some (vR 27 (some i))) (some (vI (iN (h + stW S h)))) (by omega) (Or.inr ⟨X, b1, b2, fun v S' hv' e1 e2 e3 => by
              by_cases ev : v = i
              · rw [ev, v3, v5] at e2
                rw [← (iN_inj (by omega) (by omega)).mp e2]
                omega
              · exact b3 v S' (by omega) e1 e2 e3⟩)
            refine ⟨x, fun z' => ?_, t2⟩
            rw [d_164_5]
            dsimp only
            rw [w3, List.length_range, if_pos hlt, if_neg (iN_pos (by omega)), en, List.getElem?_range hi, nn_some, if_pos (by rw [z]), v3, v5, r2, bI_some, if_neg b, d_164_72, d_164_73, iN_add1, ey, if_neg bl']
            exact t1 z'
      · obtain ⟨x, t1, t2⟩ := ih (i + 1) best (some (vR 27 (some i))) l6 (by omega) (by
          rcases hb with ⟨y1, y2⟩ | ⟨X, y1, y2, y3⟩
          · refine Or.inl ⟨y1, fun v hv' => ?_⟩
            by_cases ev : v = i
            · rw [ev]; exact z
            · exact y2 v (by omega)
          · refine Or.inr ⟨X, y1, y2, fun v S' hv' e1 e2 e3 => ?_⟩
            by_cases ev : v = i
            · rw [ev] at e1; exact absurd e1 z
            · exact y3 v S' (by omega) e1 e2 e3)
        refine ⟨x, fun z' => ?_, t2⟩
        rw [d_164_5]
        dsimp only
        rw [w3, List.length_range, if_pos hlt, if_neg (iN_pos (by omega)), en, List.getElem?_range hi, nn_some, if_neg (fun w => z (Option.some.inj w)), d_164_73, iN_add1]
        exact t1 z'
  obtain ⟨x, t1, t2⟩ := key (fN c 27) 0 (-1) none none (Nat.zero_add _) (Or.inl ⟨rfl, fun v hv => absurd hv (Nat.not_lt_zero v)⟩)
  refine ⟨x, fun z => ?_, t2⟩
  rw [d_164_0]
  exact t1 z
/-- when a lane's next trailer departs: not before -/
theorem dep49c {l h : Nat} (hJ : nJ κ i c m) (hl : l < fN c 23) (hh : h < 90000) : ∃ h', h ≤ h' ∧ h' ≤ h + 148 ∧ ∀ z, R1 xs nx 49 0 [some (vR 23 (some l)), some (vI (iN h)), none] [] (c, z) = some (.inl (some (vI (iN h'))), (c, z)) := by
  obtain ⟨-, -, -, -, -, ⟨f1, F, -, f2, f3⟩, ⟨e1, E, e2, e3, e4⟩, -⟩ := hJ.2.2.2.1.1 l hl
  by_cases p : F < h
  · have q1 : iN F < iN h := (iN_lt (by omega) (by omega)).mpr p
    have p1 : (0 : Int32) < iN E := (iN_lt (a := 0) (by omega) (by omega)).mpr e2
    have p2 : ¬ iN E = 0 := fun z => by have := (iN_inj (b := 0) (by omega) (by omega)).mp z; omega
    have sb : iN h - iN F = iN (h - F) := i32_sub (by omega) (by omega)
    have md : iN (h - F) - iN (h - F) / iN E * iN E = iN ((h - F) % E) := iN_mod (by omega) (by omega)
    have hm := Nat.mod_lt (h - F) e2
    by_cases r : (h - F) % E = 0
    · have r1 : iN ((h - F) % E) = 0 := by rw [r]; rfl
      refine ⟨h, by omega, by omega, fun z => ?_⟩
      rw [d_49_0]
      dsimp only
      rw [f1, f3, e1, e4, if_pos q1, if_pos p1, if_neg p2, sb, md, if_pos r1]
    · have r1 : ¬ iN ((h - F) % E) = 0 := fun z => r ((iN_inj (b := 0) (by omega) (by omega)).mp z)
      have fin : iN h + iN E - iN ((h - F) % E) = iN (h + E - (h - F) % E) := by rw [show iN h + iN E = iN (h + E) from i32_add]; exact i32_sub (by omega) (by omega)
      refine ⟨h + E - (h - F) % E, by omega, by omega, fun z => ?_⟩
      rw [d_49_0]
      dsimp only
      rw [f1, f3, e1, e4, if_pos q1, if_pos p1, if_neg p2, sb, md, if_neg r1, fin]
  · have q1 : ¬ iN F < iN h := fun z => p ((iN_lt (by omega) (by omega)).mp z)
    refine ⟨F, by omega, by omega, fun z => ?_⟩
    rw [d_49_0]
    dsimp only
    rw [f1, f3, if_neg q1, if_neg q1]
/-- the way of a parcel, from a depot on -/
theorem way165c (hJ : nJ κ i c m) {k D : Nat} (hk : k < fN c 26) (hD : D < 5) {q2 : Option Nat} {a3 a4 : Int32} {H0 : Nat} : ∀ (n a8 d h : Nat) (l9 : Option nV), a8 + n = 10 → d < 5 → H0 ≤ h → h ≤ 1000 + 172 * a8 →
    ∃ x : Int32, (∀ z, R1 xs nx 165 16 [some (vR 0 (some 0)), some (vR 26 (some k)), some (vR 21 q2), some (vI a3), some (vI a4), some (vR 21 (some D)), some (vR 21 (some d)), some (vI (iN h)), some (vI (iN a8)), l9] [] (c, z) = some (.inl (some (vI x)), (c, z))) ∧ fsO c D H0 x := by
  have step : ∀ (a8 d h : Nat) (l9 : Option nV), a8 ≤ 10 → d < 5 → H0 ≤ h → h ≤ 1000 + 172 * a8 → (∀ d' h' l9', a8 + 1 ≤ 10 → d' < 5 → H0 ≤ h' → h' ≤ 1000 + 172 * (a8 + 1) → ∃ x : Int32, (∀ z, R1 xs nx 165 16 [some (vR 0 (some 0)), some (vR 26 (some k)), some (vR 21 q2), some (vI a3), some (vI a4), some (vR 21 (some D)), some (vR 21 (some d')), some (vI (iN h')), some (vI (iN (a8 + 1))), l9'] [] (c, z) = some (.inl (some (vI x)), (c, z))) ∧ fsO c D H0 x) →
      ∃ x : Int32, (∀ z, R1 xs nx 165 16 [some (vR 0 (some 0)), some (vR 26 (some k)), some (vR 21 q2), some (vI a3), some (vI a4), some (vR 21 (some D)), some (vR 21 (some d)), some (vI (iN h)), some (vI (iN a8)), l9] [] (c, z) = some (.inl (some (vI x)), (c, z))) ∧ fsO c D H0 x := by
    intro a8 d h l9 h8 hd h0 hh next
    have n8 : ¬ (10 : Int32) < iN a8 := fun z => by have := (iN_lt (a := 10) (by omega) (by omega)).mp z; omega
    by_cases p : d = D
    · subst p
      cases hq : fP c 26 k 11 with
      | none =>
        obtain ⟨x, t1, t2⟩ := st164 (xs := xs) (nx := nx) (d := d) hJ (show h < 90000 by omega)
        refine ⟨x, fun z => ?_, fsO_le h0 (fsX_O t2)⟩
        rw [d_165_16, nz_some, if_neg n8, if_pos rfl, hq, nz_none, t1 z, bI_some]
      | some y =>
        refine ⟨-1, fun z => ?_, Or.inl rfl⟩
        rw [d_165_16, nz_some, if_neg n8, if_pos rfl, hq, nz_some]
    · have qs : ¬ (some d : Option Nat) = some D := fun z => p (Option.some.inj z)
      obtain ⟨x, x2, p1, p2, -⟩ := pl46 (xs := xs) (nx := nx) hJ hd hD (show h < 90000 by omega)
      have hln := (hJ.2.2.1 d hd).2.2.2.2.2 (2 * D + x) (by omega)
      cases ho : fP c 4 d (2 * D + x) with
      | none =>
        refine ⟨-1, fun z => ?_, Or.inl rfl⟩
        rw [d_165_16, nz_some, if_neg n8, if_neg qs, p1, bI_some, nn_some, p2 z, bR_some, ho, nz_none]
      | some l =>
        rw [ho] at hln
        obtain ⟨hl, -, -⟩ : l < fN c 23 ∧ fX c 23 l 1 = d ∧ m 34 (10 * d + (2 * D + x)) = iN l := hln
        obtain ⟨-, ⟨x5, -⟩, ⟨x3, H, -, H2, H3⟩, -⟩ := hJ.2.2.2.1.1 l hl
        obtain ⟨b, b1, -⟩ := stp103 (xs := xs) (nx := nx) hJ hl hk
        obtain ⟨h', w0, w1, w2⟩ := dep49c (xs := xs) (nx := nx) hJ hl (show h < 90000 by omega)
        by_cases b0 : b = 0
        · have eH : iN h' + fI c 23 l 3 = iN (h' + H) := by rw [x3, H3]; exact i32_add
          by_cases q8 : 10 < a8 + 1
          · have n8' : (10 : Int32) < iN (a8 + 1) := (iN_lt (a := 10) (by omega) (by omega)).mpr q8
            refine ⟨-1, fun z => ?_, Or.inl rfl⟩
            rw [d_165_16, nz_some, if_neg n8, if_neg qs, p1, bI_some, nn_some, p2 z, bR_some, ho, nz_some, b1 z, bI_some, if_pos b0, nn_some, w2 z, bI_some, nn_some, nn_some]
            dsimp only
            rw [eH, iN_add1, d_165_16, nz_some, if_pos n8']
          · obtain ⟨y, t1, t2⟩ := next (fX c 23 l 2) (h' + H) (some (vR 23 (some l))) (by omega) x5 (by omega) (by omega)
            refine ⟨y, fun z => ?_, t2⟩
            rw [d_165_16, nz_some, if_neg n8, if_neg qs, p1, bI_some, nn_some, p2 z, bR_some, ho, nz_some, b1 z, bI_some, if_pos b0, nn_some, w2 z, bI_some, nn_some, nn_some]
            dsimp only
            rw [eH, iN_add1]
            exact t1 z
        · refine ⟨-1, fun z => ?_, Or.inl rfl⟩
          rw [d_165_16, nz_some, if_neg n8, if_neg qs, p1, bI_some, nn_some, p2 z, bR_some, ho, nz_some, b1 z, bI_some, if_neg b0]
  intro n
  induction n with
  | zero =>
    intro a8 d h l9 e hd h0 hh
    exact step a8 d h l9 (by omega) hd h0 hh (fun d' h' l9' z => by omega)
  | succ n ih =>
    intro a8 d h l9 e hd h0 hh
    exact step a8 d h l9 (by omega) hd h0 hh (fun d' h' l9' z z1 z2 z3 => ih (a8 + 1) d' h' l9' (by omega) z1 z2 z3)
/-- what is foreseen -/
theorem q169 (hJ : nJ κ i c m) (hi : i / 100000 = 0) {k t : Nat} (hk : k < fN c 26) (et : m 1 0 = iN t) (ht : t ≤ 600) : ∃ x : Int32, (∀ w, R1 xs nx 169 0 [some (vR 0 (some 0)), some (vI (iN k)), none] [] (c, w) = nVl x c w) ∧ fsO c (tgD c m k) (t + 1) x ∧ (m 66 k = 3 → fsX c (tgD c m k) (t + 1) x) ∧ (¬ m 66 k < 4 → x = -1) := by
  obtain ⟨e0, n0, hn0, en0⟩ := kind8 hJ hk
  obtain ⟨D, hD, eD, d1, -⟩ := tgt64 (xs := xs) (nx := nx) (k := k) hJ hk
  have eD' : D = tgD c m k := eD
  rw [← eD']
  have ck := (nJ_ck hJ).1
  have eclk : fI c 0 0 9 + 1 = iN (t + 1) := by rw [ck, et, iN_add1]
  have q0 : fI c 9 k 1 = m 67 k := (hJ.2.2.2.2.2.2.2.1 k hk).2.1
  obtain ⟨c14, -⟩ := hJ.1
  have h12 := c14.1
  have C165 : ∀ (z : nM × Nat × (Nat → Int64)) (d : Nat) (h a4 : Int32), R1 xs nx 165 0 [some (vR 0 (some 0)), some (vR 26 (some k)), some (vR 21 (some d)), some (vI h), some (vI a4), none, none, none, none, none] [] (c, z) = R1 xs nx 165 16 [some (vR 0 (some 0)), some (vR 26 (some k)), some (vR 21 (some d)), some (vI h), some (vI a4), some (vR 21 (some D)), some (vR 21 (some d)), some (vI h), some (vI a4), none] [] (c, z) := by
    intro z d h a4
    rw [d_165_0, d1 z, bR_some]
  have C166 : ∀ (z : nM × Nat × (Nat → Int64)) l, l < fN c 23 → R1 xs nx 166 0 [some (vR 0 (some 0)), some (vI (iN l))] [] (c, z) = some (.inl (some (vR 23 (some l))), (c, z)) := by
    intro z l hl
    rw [d_166_0]
    dsimp only
    rw [c14.2.2, List.length_range, if_neg (iN_pos (by omega)), if_pos ((iN_lt (by omega) (by omega)).mpr hl), if_neg (iN_pos (by omega)), i32_nat (by omega), List.getElem?_range hl, nn_some]
  obtain ⟨-, -, ⟨B, -, B1, B2⟩, -, hS⟩ := hJ.2.2.2.2.2.2.2.1 k hk
  by_cases k0 : m 66 k = 0
  · obtain ⟨d, l1, l2, l3⟩ : ∃ d, d < 5 ∧ m 67 k = iN d ∧ fP c 9 k 3 = some d := by
      rw [k0] at hS
      rcases hS with ⟨z, d, z1, z2, z3, -⟩ | ⟨z, -⟩ | ⟨z, -⟩ | ⟨z, -⟩ | ⟨z, -⟩ | ⟨z, -⟩ | ⟨z, -⟩ | ⟨z, -⟩ | ⟨z, -⟩
      · exact ⟨d, z1, z2, z3⟩
      all_goals exact absurd z (by decide)
    obtain ⟨x, t1, t2⟩ := way165c (xs := xs) (nx := nx) (q2 := some d) (a3 := iN (t + 1)) (a4 := iN 0) (H0 := t + 1) hJ hk hD 10 0 d (t + 1) none rfl l1 (by omega) (by omega)
    refine ⟨x, fun z => ?_, t2, fun w => absurd (k0.symm.trans w) (by decide), fun w => absurd (show m 66 k < 4 by rw [k0]; decide) w⟩
    rw [d_169_0, p97 z hJ hk, bR_some, nn_some]
    dsimp only
    rw [e0, if_pos k0, nn_some, l3, eclk, C165, show (0 : Int32) = iN 0 from rfl, t1 z, bI_some]
    rfl
  · by_cases k1 : m 66 k = 1
    · obtain ⟨l, l1, l2, l3⟩ := sty1 hJ hk k1
      obtain ⟨-, ⟨x5, -⟩, ⟨x3, H, -, H2, H3⟩, -⟩ := hJ.2.2.2.1.1 l l1
      obtain ⟨h', w0, w1, w2⟩ := dep49c (xs := xs) (nx := nx) hJ l1 (show t + 1 < 90000 by omega)
      obtain ⟨b, b1, -⟩ := stp103 (xs := xs) (nx := nx) hJ l1 hk
      have C1' : ∀ z, R1 xs nx 169 0 [some (vR 0 (some 0)), some (vI (iN k)), none] [] (c, z) = bI (R1 xs nx 168 0 [some (vR 0 (some 0)), some (vR 26 (some k)), some (vR 23 (some l))] [] (c, z)) (fun x11 s10 => some (.inl (some (vI x11)), s10)) hE := by
        intro z
        rw [d_169_0, p97 z hJ hk, bR_some, nn_some]
        dsimp only
        rw [e0, if_neg k0, if_pos k1, nn_some, q0, l2, C166 z l l1, bR_some]
      by_cases b0 : b = 0
      · obtain ⟨x, t1, t2⟩ := way165c (xs := xs) (nx := nx) (q2 := some (fX c 23 l 2)) (a3 := iN (h' + H)) (a4 := iN 1) (H0 := t + 1) hJ hk hD 9 1 (fX c 23 l 2) (h' + H) none rfl x5 (by omega) (by omega)
        have eH : iN h' + fI c 23 l 3 = iN (h' + H) := by rw [x3, H3]; exact i32_add
        refine ⟨x, fun z => ?_, t2, fun w => absurd (k1.symm.trans w) (by decide), fun w => absurd (show m 66 k < 4 by rw [k1]; decide) w⟩
        rw [C1', d_168_0, nz_some, nn_some]
        dsimp only
        rw [eclk, w2 z, bI_some, d_167_0, nz_some, b1 z, bI_some, if_pos b0, nn_some, nn_some]
        dsimp only
        rw [eH, C165, show (1 : Int32) = iN 1 from rfl, t1 z, bI_some, bI_some, bI_some]
        rfl
      · refine ⟨-1, fun z => ?_, Or.inl rfl, fun w => absurd (k1.symm.trans w) (by decide), fun _ => rfl⟩
        rw [C1', d_168_0, nz_some, nn_some]
        dsimp only
        rw [eclk, w2 z, bI_some, d_167_0, nz_some, b1 z, bI_some, if_neg b0, bI_some, bI_some]
        rfl
    · by_cases k2 : m 66 k = 2
      · obtain ⟨l, l1, l2, l69, l70⟩ : ∃ l, l < fN c 23 ∧ m 67 k = iN l ∧ m 69 k = fI c 9 k 2 + fI c 23 l 3 ∧ m 1 0 < m 69 k := by
          rw [k2] at hS
          rcases hS with ⟨z, -⟩ | ⟨z, -⟩ | ⟨z, d, z1, z2, -, -, -, -, -, z3, -, z4⟩ | ⟨z, -⟩ | ⟨z, -⟩ | ⟨z, -⟩ | ⟨z, -⟩ | ⟨z, -⟩ | ⟨z, -⟩
          · exact absurd z (by decide)
          · exact absurd z (by decide)
          · exact ⟨d, z1, z2, z3, z4 (by omega)⟩
          all_goals exact absurd z (by decide)
        obtain ⟨-, ⟨x5, x6⟩, ⟨x3, H, -, H2, H3⟩, -⟩ := hJ.2.2.2.1.1 l l1
        obtain ⟨b, b1, -⟩ := stp103 (xs := xs) (nx := nx) hJ l1 hk
        have eH : fI c 9 k 2 + fI c 23 l 3 = iN (B + H) := by rw [B2, x3, H3]; exact i32_add
        have hle : t + 1 ≤ B + H := by
          rw [l69, eH, et] at l70
          have := (iN_lt (by omega) (by omega)).mp l70
          omega
        have C1' : ∀ z, R1 xs nx 169 0 [some (vR 0 (some 0)), some (vI (iN k)), none] [] (c, z) = bI (R1 xs nx 167 0 [some (vR 0 (some 0)), some (vR 26 (some k)), some (vR 23 (some l)), some (vI (fI c 9 k 2)), some (vI 0)] [] (c, z)) (fun x11 s10 => some (.inl (some (vI x11)), s10)) hE := by
          intro z
          rw [d_169_0, p97 z hJ hk, bR_some, nn_some]
          dsimp only
          rw [e0, if_neg k0, if_neg k1, if_pos k2, nn_some, q0, l2, C166 z l l1, bR_some, nn_some]
        by_cases b0 : b = 0
        · obtain ⟨x, t1, t2⟩ := way165c (xs := xs) (nx := nx) (q2 := some (fX c 23 l 2)) (a3 := iN (B + H)) (a4 := iN 0) (H0 := t + 1) hJ hk hD 10 0 (fX c 23 l 2) (B + H) none rfl x5 hle (by omega)
          refine ⟨x, fun z => ?_, t2, fun w => absurd (k2.symm.trans w) (by decide), fun w => absurd (show m 66 k < 4 by rw [k2]; decide) w⟩
          rw [C1', d_167_0, nz_some, b1 z, bI_some, if_pos b0, nn_some, nn_some]
          dsimp only
          rw [eH, C165, show (0 : Int32) = iN 0 from rfl, t1 z, bI_some, bI_some]
          rfl
        · refine ⟨-1, fun z => ?_, Or.inl rfl, fun w => absurd (k2.symm.trans w) (by decide), fun _ => rfl⟩
          rw [C1', d_167_0, nz_some, b1 z, bI_some, if_neg b0, bI_some]
          rfl
      · by_cases k3 : m 66 k = 3
        · obtain ⟨d, l1, l2, l3⟩ := sty3 hJ hk k3
          obtain ⟨-, g2⟩ := (hJ.2.2.2.2.2.2.2.2.1.2 k hk).1 k3
          obtain ⟨-, -, ⟨p1, p2⟩, ⟨p3, p4⟩, -⟩ := hJ.2.2.2.2.2.1 k hk
          have hA := hJ.2.2.2.2.1.1
          have hN := hJ.1.2.1.1
          have edD : d = D := by
            rw [l2] at g2
            refine (iN_inj (by omega) (by omega)).mp (g2.trans ?_)
            rw [eD]
            by_cases y : m 63 k = 0
            · rw [if_pos y, if_pos y, p4, i32_nat (by omega), (hA _ p3).1.2]
            · rw [if_neg y, if_neg y, p2, i32_nat (by omega), (hA _ p1).1.2]
          obtain ⟨x, t1, t2⟩ := st164 (xs := xs) (nx := nx) (d := D) hJ (show t + 1 < 90000 by omega)
          refine ⟨x, fun z => ?_, fsX_O t2, fun _ => t2, fun w => absurd (show m 66 k < 4 by rw [k3]; decide) w⟩
          rw [d_169_0, p97 z hJ hk, bR_some, nn_some]
          dsimp only
          rw [e0, if_neg k0, if_neg k1, if_neg k2, if_pos k3, nn_some, l3, edD, eclk, t1 z, bI_some]
          rfl
        · refine ⟨-1, fun z => ?_, Or.inl rfl, fun w => absurd w k3, fun _ => rfl⟩
          rw [d_169_0, p97 z hJ hk, bR_some, nn_some]
          dsimp only
          rw [e0, if_neg k0, if_neg k1, if_neg k2, if_neg k3]
          rfl
/-- one van of the law's reading -/
theorem fsS (hJ : nJ κ i c m) (hA : pA κ a) {its k t : Nat} (hits : its < fN c 26) (et : m 1 0 = iN t) (ht : t ≤ 600) (hc : a 80 5 = m 1 0) (hk : k < fN c 27) {told wh a8 : Int32} {NX : Nat} (h8 : a8 = 0 ∨ a8 = 1) (hNX : NX ≤ 1000) (l11 l12 : Option nV) :
    ∃ (S : Nat) (b8 : Int32) (NY : Nat) (r11 r12 : Option nV), S < 24 ∧ fI c 27 k 3 = iN S ∧ (b8 = 0 ∨ b8 = 1) ∧ (a8 = 1 → b8 = 1) ∧ (∀ X, told = iN X → X < 91000 → fX c 27 k 1 = tgD c m its → X % 24 = S → b8 = 1) ∧ NY = (if fX c 27 k 1 = tgD c m its ∧ t + 1 + stW S (t + 1) < NX then t + 1 + stW S (t + 1) else NX) ∧
    R1 xs nx 7 74 [some (vR 0 (some 0)), some (vR 79 (some 0)), some (vR 45 (some 0)), some (vR 80 (some 0)), some (vI (iN its)), some (vI told), some (vI wh), some (vI 1), some (vI a8), some (vI (iN NX)), some (vI (iN k)), l11, l12] [] (c, a, q, J) = R1 xs nx 7 74 [some (vR 0 (some 0)), some (vR 79 (some 0)), some (vR 45 (some 0)), some (vR 80 (some 0)), some (vI (iN its)), some (vI told), some (vI wh), some (vI 1), some (vI b8), some (vI (iN NY)), some (vI (iN (k + 1))), r11, r12] [] (c, a, q, J) := by
  have h27 := hJ.1.2.2.2.1.1
  obtain ⟨k1, -, -, -, k5, k6, -⟩ := nJ_k hJ
  have z3 : a 80 3 = iN (fN c 27) := by rw [hA.1.2.2.2.1, k1.2.2.2.1]
  obtain ⟨S, hS, e1, e2⟩ := hA.2.2.2.1 k (by rw [k1.2.2.2.1]; exact hk)
  rw [k5] at e2
  have e3 : fI c 27 k 3 = iN S := (k6 k).symm.trans e1
  obtain ⟨⟨v1, -⟩, -⟩ := hJ.2.2.2.2.2.2.2.2.2.2.2.1.1 k hk
  have kin : mIn (iN k) 6 = true := iN_in (by omega) (by decide)
  have ken : (iN k).toNatClampNeg = k := i32_nat (by omega)
  obtain ⟨D, hD, eD, -, -⟩ := tgt64 (xs := xs) (nx := nx) (k := its) hJ hits
  have eD' : tgD c m its = D := eD.symm
  rw [eD']
  have x10 : a 79 k / 10 = iN S := by
    rw [e2]
    exact (iN_div (b := 10) (by omega) (by omega)).trans (by rw [show (fX c 27 k 1 + 10 * S) / 10 = S by omega])
  have x1 : a 79 k - iN S * 10 = iN (fX c 27 k 1) := by
    rw [← x10, e2]
    exact (iN_mod (b := 10) (by omega) (by omega)).trans (by rw [show (fX c 27 k 1 + 10 * S) % 10 = fX c 27 k 1 by omega])
  have g1 : a 80 5 + 1 = iN (t + 1) := by rw [hc, et, iN_add1]
  have w24 : ((iN S - (iN (t + 1) - iN (t + 1) / 24 * 24)) + 24) - ((iN S - (iN (t + 1) - iN (t + 1) / 24 * 24)) + 24) / 24 * 24 = iN (stW S (t + 1)) := wait24 (by omega) (by omega)
  have hw : stW S (t + 1) < 24 := Nat.mod_lt _ (by decide)
  have ew : iN (t + 1) + iN (stW S (t + 1)) = iN (t + 1 + stW S (t + 1)) := i32_add
  -- the end of a van's reading
  have fin : ∀ (b8 a11 : Int32) (l12 : Option nV), (fX c 27 k 1 = D ∧ a11 = 1) ∨ (¬ fX c 27 k 1 = D ∧ a11 = 0) → ∃ (r11 r12 : Option nV), R1 xs nx 7 142 [some (vR 0 (some 0)), some (vR 79 (some 0)), some (vR 45 (some 0)), some (vR 80 (some 0)), some (vI (iN its)), some (vI told), some (vI wh), some (vI 1), some (vI a8), some (vI (iN NX)), some (vI (iN k)), some (vI a11), l12] [vI b8] (c, a, q, J) = R1 xs nx 7 74 [some (vR 0 (some 0)), some (vR 79 (some 0)), some (vR 45 (some 0)), some (vR 80 (some 0)), some (vI (iN its)), some (vI told), some (vI wh), some (vI 1), some (vI b8), some (vI (iN (if fX c 27 k 1 = D ∧ t + 1 + stW S (t + 1) < NX then t + 1 + stW S (t + 1) else NX))), some (vI (iN (k + 1))), r11, r12] [] (c, a, q, J) := by
    intro b8 a11 l12 h
    refine ⟨some (vI a11), some (vI (iN (stW S (t + 1)))), ?_⟩
    rw [d_7_142, if_pos kin, if_pos i65]
    dsimp only
    simp only [ken, t65, x10, g1, w24, ew]
    rcases h with ⟨h1, h2⟩ | ⟨h1, h2⟩
    · rw [if_neg (show ¬ a11 = 0 by rw [h2]; decide), if_pos i65]
      by_cases hl : t + 1 + stW S (t + 1) < NX
      · rw [if_pos ((iN_lt (by omega) (by omega)).mpr hl), if_pos i65, d_7_199, iN_add1, if_pos ⟨h1, hl⟩]
      · rw [if_neg (fun z => hl ((iN_lt (by omega) (by omega)).mp z)), d_7_197, d_7_199, iN_add1, if_neg (fun z => hl z.2)]
    · rw [if_pos h2, d_7_197, d_7_199, iN_add1, if_neg (fun z => h1 z.1)]
  have st : R1 xs nx 7 74 [some (vR 0 (some 0)), some (vR 79 (some 0)), some (vR 45 (some 0)), some (vR 80 (some 0)), some (vI (iN its)), some (vI told), some (vI wh), some (vI 1), some (vI a8), some (vI (iN NX)), some (vI (iN k)), l11, l12] [] (c, a, q, J) = _ := d_7_74 _ _ _ _ _ _ _ _ _ _
  rw [if_pos i63] at st
  dsimp only at st
  simp only [t63, z3, ken, x10, x1] at st
  rw [if_pos ((iN_lt (by omega) (by omega)).mpr hk), if_pos kin, q146_7 _ hJ hits, bI_Vl, eD'] at st
  by_cases hi : fX c 27 k 1 = D
  · rw [if_pos (by rw [hi])] at st
    have e105 : R1 xs nx 7 105 [some (vR 0 (some 0)), some (vR 79 (some 0)), some (vR 45 (some 0)), some (vR 80 (some 0)), some (vI (iN its)), some (vI told), some (vI wh), some (vI 1), some (vI a8), some (vI (iN NX)), some (vI (iN k)), l11, l12] [vI 1] (c, a, q, J) = _ := d_7_105 _ _ _ _ _ _ _ _ _ _ _
    rw [e105] at st
    dsimp only at st
    simp only [ken, x10] at st
    rcases h8 with h8 | h8
    · rw [if_pos h8, if_neg n10] at st
      by_cases hn : told < 0
      · rw [if_pos hn, d_7_141] at st
        obtain ⟨r11, r12, hf⟩ := fin 0 1 l12 (Or.inl ⟨hi, rfl⟩)
        refine ⟨S, 0, _, r11, r12, by omega, e3, Or.inl rfl, fun z => ?_, fun X z z1 _ _ => ?_, rfl, st.trans hf⟩
        · rw [h8] at z; exact absurd z (by decide)
        · rw [z] at hn; exact absurd hn (iN_pos (by omega))
      · rw [if_neg hn, if_pos kin] at st
        by_cases h24 : told - told / 24 * 24 = iN S
        · rw [if_pos h24, d_7_137] at st
          obtain ⟨r11, r12, hf⟩ := fin 1 1 l12 (Or.inl ⟨hi, rfl⟩)
          exact ⟨S, 1, _, r11, r12, by omega, e3, Or.inr rfl, fun _ => rfl, fun _ _ _ _ _ => rfl, rfl, st.trans hf⟩
        · rw [if_neg h24, d_7_141] at st
          obtain ⟨r11, r12, hf⟩ := fin 0 1 l12 (Or.inl ⟨hi, rfl⟩)
          refine ⟨S, 0, _, r11, r12, by omega, e3, Or.inl rfl, fun z => ?_, fun X z z1 _ z2 => ?_, rfl, st.trans hf⟩
          · rw [h8] at z; exact absurd z (by decide)
          · exfalso
            apply h24
            rw [z]
            exact (iN_mod (b := 24) (by omega) (by omega)).trans (by rw [z2])
    · rw [if_neg (show ¬ a8 = 0 by rw [h8]; decide), d_7_137] at st
      obtain ⟨r11, r12, hf⟩ := fin 1 1 l12 (Or.inl ⟨hi, rfl⟩)
      exact ⟨S, 1, _, r11, r12, by omega, e3, Or.inr rfl, fun _ => rfl, fun _ _ _ _ _ => rfl, rfl, st.trans hf⟩
  · rw [if_neg (fun z => hi ((iN_inj (by omega) (by omega)).mp z))] at st
    have e105 : R1 xs nx 7 105 [some (vR 0 (some 0)), some (vR 79 (some 0)), some (vR 45 (some 0)), some (vR 80 (some 0)), some (vI (iN its)), some (vI told), some (vI wh), some (vI 1), some (vI a8), some (vI (iN NX)), some (vI (iN k)), l11, l12] [vI 0] (c, a, q, J) = _ := d_7_105 _ _ _ _ _ _ _ _ _ _ _
    rw [e105] at st
    dsimp only at st
    simp only [ken, x10] at st
    rcases h8 with h8 | h8
    · rw [if_pos h8, if_true, d_7_141] at st
      obtain ⟨r11, r12, hf⟩ := fin 0 0 l12 (Or.inr ⟨hi, rfl⟩)
      refine ⟨S, 0, _, r11, r12, by omega, e3, Or.inl rfl, fun z => ?_, fun X _ _ z => absurd z hi, rfl, st.trans hf⟩
      rw [h8] at z
      exact absurd z (by decide)
    · rw [if_neg (show ¬ a8 = 0 by rw [h8]; decide), d_7_137] at st
      obtain ⟨r11, r12, hf⟩ := fin 1 0 l12 (Or.inr ⟨hi, rfl⟩)
      exact ⟨S, 1, _, r11, r12, by omega, e3, Or.inr rfl, fun _ => rfl, fun _ _ _ _ _ => rfl, rfl, st.trans hf⟩
/-- the law reads what is foreseen -/
theorem isFs (hJ : nJ κ i c m) (hi : i / 100000 = 0) (hA : pA κ a) (hc : a 80 5 = m 1 0) {its : Nat} (hits : its ≤ fN c 26) : ∃ q2, q2 ≤ q + 1 ∧ R1 xs nx 7 0 [some (vR 0 (some 0)), some (vR 79 (some 0)), some (vR 45 (some 0)), some (vR 80 (some 0)), some (vI (iN its)), none, none, none, none, none, none, none, none] [] (c, a, q, J) = nVl 1 c (a, q2, J) := by
  have h26 := hJ.1.2.2.1.1
  have h27 := hJ.1.2.2.2.1.1
  obtain ⟨k1, -⟩ := nJ_k hJ
  have g2 : a 80 2 = iN (fN c 26) := by rw [hA.1.2.2.1, k1.2.2.1]
  have z3 : a 80 3 = iN (fN c 27) := by rw [hA.1.2.2.2.1, k1.2.2.2.1]
  obtain ⟨-, t, -, ht, et⟩ := nJ_ck hJ
  have st : R1 xs nx 7 0 [some (vR 0 (some 0)), some (vR 79 (some 0)), some (vR 45 (some 0)), some (vR 80 (some 0)), some (vI (iN its)), none, none, none, none, none, none, none, none] [] (c, a, q, J) = _ := d_7_0 _ _
  rw [if_pos i62] at st
  dsimp only at st
  simp only [t62, g2] at st
  by_cases hlt : its < fN c 26
  · refine ⟨q, by omega, ?_⟩
    obtain ⟨x, hx, fO, fX3, f4⟩ := q169 (xs := xs) (nx := nx) hJ hi hlt et ht
    rw [if_pos ((iN_lt (by omega) (by omega)).mpr hlt), hx, bI_Vl, q144 _ hJ hlt, bI_Vl] at st
    -- the vans
    have loop : ∀ (n k : Nat) (a8 : Int32) (NX : Nat) (l11 l12 : Option nV), k + n = fN c 27 → (a8 = 0 ∨ a8 = 1) → NX ≤ 1000 → (∀ X, x = iN X → X < 91000 → (∃ v S, v < k ∧ fX c 27 v 1 = tgD c m its ∧ fI c 27 v 3 = iN S ∧ S < 24 ∧ X % 24 = S) → a8 = 1) → ((NX = 1000 ∧ ∀ v, v < k → fX c 27 v 1 ≠ tgD c m its) ∨ (NX < 1000 ∧ ∃ v S, v < k ∧ fX c 27 v 1 = tgD c m its ∧ fI c 27 v 3 = iN S ∧ S < 24 ∧ NX = t + 1 + stW S (t + 1))) → (∀ v S, v < k → fX c 27 v 1 = tgD c m its → fI c 27 v 3 = iN S → S < 24 → NX ≤ t + 1 + stW S (t + 1)) →
        R1 xs nx 7 74 [some (vR 0 (some 0)), some (vR 79 (some 0)), some (vR 45 (some 0)), some (vR 80 (some 0)), some (vI (iN its)), some (vI x), some (vI (m 66 its)), some (vI 1), some (vI a8), some (vI (iN NX)), some (vI (iN k)), l11, l12] [] (c, a, q, J) = nVl 1 c (a, q, J) := by
      intro n
      induction n with
      | zero =>
        intro k a8 NX l11 l12 e h8 hNX hhas hnx hmin
        have ek : k = fN c 27 := by omega
        subst ek
        rw [d_7_74, if_pos i63]
        dsimp only
        simp only [t63, z3, t65, hc, et]
        rw [if_neg (iN_nlt (by omega) (by omega) (by omega)), if_neg n10]
        have h238 : ∀ l11 l12, R1 xs nx 7 238 [some (vR 0 (some 0)), some (vR 79 (some 0)), some (vR 45 (some 0)), some (vR 80 (some 0)), some (vI (iN its)), some (vI x), some (vI (m 66 its)), some (vI 1), some (vI a8), some (vI (iN NX)), some (vI (iN (fN c 27))), l11, l12] [] (c, a, q, J) = nVl 1 c (a, q, J) := by
          intro l11 l12
          rw [d_7_238]
          by_cases w3 : m 66 its = 3
          · rw [if_pos w3]
            rcases fX3 w3 with ⟨y1, y2⟩ | ⟨X, y1, y2, y3⟩
            · have eN : NX = 1000 := by
                rcases hnx with ⟨z, -⟩ | ⟨-, v, S, z1, z2, -⟩
                · exact z
                · exact absurd z2 (y2 v z1)
              rw [if_pos (by rw [eN]; rfl), d_7_260, if_pos y1]
              rfl
            · obtain ⟨u1, u2, v0, S0, u3, u4, u5, u6, u7⟩ := y2
              have m1 := hmin v0 S0 u3 u4 u5 u6
              have m2 : t + 1 + stW S0 (t + 1) ≤ X := by unfold stW; omega
              rcases hnx with ⟨-, z⟩ | ⟨zl, v1, S1, z1, z2, z4, z5, z6⟩
              · exact absurd u4 (z v0 u3)
              · have m3 := y3 v1 S1 z1 z2 z4 z5
                have eX : X = NX := by omega
                rw [if_neg (show ¬ iN NX = (1000 : Int32) from fun z => by have := (iN_inj (b := 1000) (by omega) (by omega)).mp z; omega), d_7_260, if_pos (by rw [y1, eX])]
                rfl
          · rw [if_neg w3]
            rfl
        by_cases hm1 : x = -1
        · rw [if_pos hm1]
          exact h238 _ _
        · rw [if_neg hm1]
          obtain ⟨X, y1, u1, u2, v0, S0, u3, u4, u5, u6, u7⟩ := fO.resolve_left hm1
          have m1 := hmin v0 S0 u3 u4 u5 u6
          have m2 : t + 1 + stW S0 (t + 1) ≤ X := by unfold stW; omega
          have h1 := hhas X y1 u2 ⟨v0, S0, u3, u4, u5, u6, u7⟩
          rw [if_pos i65, if_pos (show iN t < x by rw [y1]; exact (iN_lt (by omega) (by omega)).mpr (by omega)), if_neg (show ¬ a8 = 0 by rw [h1]; decide), if_neg (show ¬ x < iN NX by rw [y1]; exact iN_nlt (by omega) (by omega) (by omega))]
          exact h238 _ _
      | succ n ih =>
        intro k a8 NX l11 l12 e h8 hNX hhas hnx hmin
        obtain ⟨S, b8, NY, r11, r12, s1, s2, s3, s4, s5, s6, s7⟩ := fsS (xs := xs) (nx := nx) (q := q) (J := J) hJ hA hlt et ht hc (show k < fN c 27 by omega) (told := x) (wh := m 66 its) h8 hNX l11 l12
        have hw : stW S (t + 1) < 24 := Nat.mod_lt _ (by decide)
        rw [s7]
        have uniq : ∀ S', fI c 27 k 3 = iN S' → S' < 24 → S' = S := fun S' z z1 => (iN_inj (by omega) (by omega)).mp (z.symm.trans s2)
        refine ih (k + 1) b8 NY r11 r12 (by omega) s3 ?_ ?_ ?_ ?_
        · rw [s6]; split <;> omega
        · rintro X y1 y2 ⟨v, S', v1, v2, v3, v4, v5⟩
          by_cases ev : v = k
          · rw [ev] at v2 v3
            exact s5 X y1 y2 v2 (by rw [v5]; exact uniq S' v3 v4)
          · exact s4 (hhas X y1 y2 ⟨v, S', by omega, v2, v3, v4, v5⟩)
        · by_cases hd : fX c 27 k 1 = tgD c m its ∧ t + 1 + stW S (t + 1) < NX
          · rw [s6, if_pos hd]
            exact Or.inr ⟨by omega, k, S, Nat.lt_succ_self k, hd.1, s2, s1, rfl⟩
          · rw [s6, if_neg hd]
            rcases hnx with ⟨z1, z2⟩ | ⟨z0, v, S', z1, z2⟩
            · refine Or.inl ⟨z1, fun v hv => ?_⟩
              by_cases ev : v = k
              · rw [ev]
                exact fun w => hd ⟨w, by omega⟩
              · exact z2 v (by omega)
            · exact Or.inr ⟨z0, v, S', by omega, z2⟩
        · intro v S' v1 v2 v3 v4
          rw [s6]
          by_cases ev : v = k
          · rw [ev] at v2 v3
            rw [uniq S' v3 v4]
            by_cases hd : t + 1 + stW S (t + 1) < NX
            · rw [if_pos ⟨v2, hd⟩]
              exact Nat.le_refl _
            · rw [if_neg (fun w => hd w.2)]
              omega
          · have := hmin v S' (by omega) v2 v3 v4
            split <;> omega
    have go : R1 xs nx 7 56 [some (vR 0 (some 0)), some (vR 79 (some 0)), some (vR 45 (some 0)), some (vR 80 (some 0)), some (vI (iN its)), some (vI x), some (vI (m 66 its)), none, none, none, none, none, none] [] (c, a, q, J) = nVl 1 c (a, q, J) := by
      rw [d_7_56, d_7_61]
      exact loop (fN c 27) 0 0 1000 none none (Nat.zero_add _) (Or.inl rfl) (Nat.le_refl _) (fun X _ _ ⟨v, S, v1, _⟩ => absurd v1 (Nat.not_lt_zero v)) (Or.inl ⟨rfl, fun v hv => absurd hv (Nat.not_lt_zero v)⟩) (fun v S hv => absurd hv (Nat.not_lt_zero v))
    by_cases w4 : m 66 its < 4
    · rw [if_pos w4, go] at st
      exact st
    · rw [if_neg w4, if_pos (f4 w4), go] at st
      exact st
  · have ee : its = fN c 26 := by omega
    refine ⟨q + 1, by omega, ?_⟩
    rw [if_neg (iN_nlt (by omega) (by omega) (by omega)), ee, kE16 hJ, bI_Vl, if_pos rfl] at st
    rw [ee]
    exact st
end FOR
end KAP
