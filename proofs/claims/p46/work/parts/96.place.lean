/-! ===== a move keeps the invariant ===== -/
section KAP
variable {κ : kP}
section OPP
variable {xs : Nat → Int32} {nx : Nat}
theorem i32_ltt {a b : Int32} : a < b ↔ a.toInt < b.toInt := Int32.lt_iff_toInt_lt
theorem nLin_nd {P : Nat} {w a o : Nat → Int32} {x y : Int32} {l : List Nat} (h : nLin P w a o x y l) : l.Nodup := by
  refine h.2.imp ?_
  intro j k hjk e
  subst e
  rw [i32_ltt] at hjk
  omega
theorem nLin_le {P : Nat} {w a o : Nat → Int32} {x y : Int32} {l : List Nat} (h : nLin P w a o x y l) : l.length ≤ P := by
  rw [nLin_len h]
  have := List.length_filter_le (fun k => decide (w k = x ∧ a k = y)) (List.range' 0 P)
  rw [List.length_range'] at this
  exact this
theorem nLin_mv {P k : Nat} {w a o w' a' o' : Nat → Int32} {x y W A u : Int32} {L : List Nat} (h : nLin P w a o x y L) (hk : k < P) (ho : ∀ j, j < P → o j < u)
    (hw : ∀ j, j ≠ k → w' j = w j) (ha : ∀ j, j ≠ k → a' j = a j) (hO : ∀ j, j ≠ k → o' j = o j) (wk : w' k = W) (ak : a' k = A) (ok : o' k = u) :
    nLin P w' a' o' x y (if W = x ∧ A = y then (if w k = x ∧ a k = y then L.erase k else L) ++ [k] else if w k = x ∧ a k = y then L.erase k else L) := by
  have nd := nLin_nd h
  have h0 : ∀ j, j ∈ (if w k = x ∧ a k = y then L.erase k else L) ↔ (j < P ∧ w j = x ∧ a j = y) ∧ j ≠ k := by
    intro j
    by_cases e : w k = x ∧ a k = y
    · rw [if_pos e, List.Nodup.mem_erase_iff nd, h.1 j]
      exact ⟨fun z => ⟨z.2, z.1⟩, fun z => ⟨z.2, z.1⟩⟩
    · rw [if_neg e, h.1 j]
      refine ⟨fun z => ⟨z, fun q => ?_⟩, fun z => z.1⟩
      subst q
      exact e z.2
  have hp : (if w k = x ∧ a k = y then L.erase k else L).Pairwise (fun i j => o i < o j) := by
    by_cases e : w k = x ∧ a k = y
    · rw [if_pos e]
      exact h.2.sublist List.erase_sublist
    · rw [if_neg e]
      exact h.2
  revert h0 hp
  generalize (if w k = x ∧ a k = y then L.erase k else L) = M
  intro h0 hp
  have hp' : M.Pairwise (fun i j => o' i < o' j) := by
    refine List.Pairwise.imp_of_mem ?_ hp
    intro i j hi hj hij
    rw [hO i ((h0 i).mp hi).2, hO j ((h0 j).mp hj).2]
    exact hij
  by_cases e : W = x ∧ A = y
  · rw [if_pos e]
    refine ⟨fun j => ?_, ?_⟩
    · rw [List.mem_append, h0 j, List.mem_singleton]
      by_cases q : j = k
      · subst q
        rw [wk, ak]
        exact ⟨fun _ => ⟨hk, e⟩, fun _ => Or.inr rfl⟩
      · rw [hw j q, ha j q]
        exact ⟨fun z => z.elim (fun z => z.1) (fun z => absurd z q), fun z => Or.inl ⟨z, q⟩⟩
    · rw [List.pairwise_append]
      refine ⟨hp', List.pairwise_singleton _ _, fun i hi j hj => ?_⟩
      rw [List.mem_singleton] at hj
      subst hj
      rw [ok, hO i ((h0 i).mp hi).2]
      exact ho i ((h0 i).mp hi).1.1
  · rw [if_neg e]
    refine ⟨fun j => ?_, hp'⟩
    rw [h0 j]
    by_cases q : j = k
    · subst q
      rw [wk, ak]
      exact ⟨fun z => absurd rfl z.2, fun z => absurd z.2 e⟩
    · rw [hw j q, ha j q]
      exact ⟨fun z => z.1, fun z => ⟨z, q⟩⟩
theorem c01 : ¬ (0 : Int32) = 1 := by decide
theorem c02 : ¬ (0 : Int32) = 2 := by decide
theorem c10 : ¬ (1 : Int32) = 0 := by decide
theorem c12 : ¬ (1 : Int32) = 2 := by decide
theorem c20 : ¬ (2 : Int32) = 0 := by decide
theorem c21 : ¬ (2 : Int32) = 1 := by decide
/-- the line of a parcel, by its kind and number -/
theorem sty_q {h : Nat → Int32} {D : Nat → Option Nat} {q : Option (Nat × Nat)} {XL XK : Nat → Nat → Nat} {fl : Nat → Nat → Int32} {n1 n2 n3 pp : Nat} {ck : Int32} {m6 m7 b1 b2 b3 b4 b5 b6 b7 : Nat → Int32} {k : Nat} (n12 : n1 ≤ 12)
    (H : nSty h D q XL XK fl n1 n2 n3 pp ck m6 m7 b1 b2 b3 b4 b5 b6 b7 k) : (∀ p, q = some p → p.1 = 3 ∨ p.1 = 5 ∨ p.1 = 6) ∧ ∀ l, l < 1000 → ((q = some (3, l) ↔ m6 k = 0 ∧ m7 k = iN l) ∧ (q = some (5, l) ↔ m6 k = 1 ∧ m7 k = iN l) ∧ (q = some (6, l) ↔ m6 k = 2 ∧ m7 k = iN l)) := by
  obtain ⟨-, -, -, -, y⟩ := H
  have hs : ∀ (t t' l l' : Nat), (some (t, l) : Option (Nat × Nat)) = some (t', l') ↔ t = t' ∧ l = l' := fun t t' l l' => by
    rw [Option.some.injEq, Prod.mk.injEq]
  have hn : ∀ (p : Nat × Nat), ¬ (none : Option (Nat × Nat)) = some p := fun p z => by cases z
  have hz : q = none → m6 k ≠ 0 → m6 k ≠ 1 → m6 k ≠ 2 → (∀ p, q = some p → p.1 = 3 ∨ p.1 = 5 ∨ p.1 = 6) ∧ ∀ l, l < 1000 → ((q = some (3, l) ↔ m6 k = 0 ∧ m7 k = iN l) ∧ (q = some (5, l) ↔ m6 k = 1 ∧ m7 k = iN l) ∧ (q = some (6, l) ↔ m6 k = 2 ∧ m7 k = iN l)) := by
    intro e e0 e1 e2
    rw [e]
    exact ⟨fun p z => absurd z (hn p), fun l hl => ⟨⟨fun z => absurd z (hn _), fun z => absurd z.1 e0⟩, ⟨fun z => absurd z (hn _), fun z => absurd z.1 e1⟩, ⟨fun z => absurd z (hn _), fun z => absurd z.1 e2⟩⟩⟩
  rcases y with ⟨z, d, hd, z1, -, z2, -⟩ | ⟨z, d, hd, z1, -, z2, -⟩ | ⟨z, d, hd, z1, -, z2, -⟩ | ⟨z, d, hd, z1, -, z2, -⟩ | ⟨z, d, hd, z1, -, z2, -⟩ | ⟨z, d, hd, z1, -, z2, -⟩ | ⟨z, d, hd, z1, -, z2, -⟩ | ⟨z, -, -, z2, -⟩ | ⟨z, -, -, z2, -⟩
  · rw [z2, z, z1]
    refine ⟨fun p e => by rw [← Option.some.inj e]; exact Or.inl rfl, fun l hl => ?_⟩
    rw [hs, hs, hs, iN_inj (by omega) (by omega)]
    exact ⟨⟨fun z => ⟨rfl, z.2⟩, fun z => ⟨rfl, z.2⟩⟩, ⟨fun z => absurd z.1 (by decide), fun z => absurd z.1 c01⟩, ⟨fun z => absurd z.1 (by decide), fun z => absurd z.1 c02⟩⟩
  · rw [z2, z, z1]
    refine ⟨fun p e => by rw [← Option.some.inj e]; exact Or.inr (Or.inl rfl), fun l hl => ?_⟩
    rw [hs, hs, hs, iN_inj (by omega) (by omega)]
    exact ⟨⟨fun z => absurd z.1 (by decide), fun z => absurd z.1 c10⟩, ⟨fun z => ⟨rfl, z.2⟩, fun z => ⟨rfl, z.2⟩⟩, ⟨fun z => absurd z.1 (by decide), fun z => absurd z.1 c12⟩⟩
  · rw [z2, z, z1]
    refine ⟨fun p e => by rw [← Option.some.inj e]; exact Or.inr (Or.inr rfl), fun l hl => ?_⟩
    rw [hs, hs, hs, iN_inj (by omega) (by omega)]
    exact ⟨⟨fun z => absurd z.1 (by decide), fun z => absurd z.1 c20⟩, ⟨fun z => absurd z.1 (by decide), fun z => absurd z.1 c21⟩, ⟨fun z => ⟨rfl, z.2⟩, fun z => ⟨rfl, z.2⟩⟩⟩
  · exact hz z2 (by rw [z]; decide) (by rw [z]; decide) (by rw [z]; decide)
  · exact hz z2 (by rw [z]; decide) (by rw [z]; decide) (by rw [z]; decide)
  · exact hz z2 (by rw [z]; decide) (by rw [z]; decide) (by rw [z]; decide)
  · exact hz z2 (by rw [z]; decide) (by rw [z]; decide) (by rw [z]; decide)
  · exact hz z2 (by rw [z]; decide) (by rw [z]; decide) (by rw [z]; decide)
  · exact hz z2 (by rw [z]; decide) (by rw [z]; decide) (by rw [z]; decide)
theorem nJ_q {i : Nat} {c : nC} {m : nM} (hJ : nJ κ i c m) {k : Nat} (hk : k < fN c 26) : (∀ p, fQ c k = some p → p.1 = 3 ∨ p.1 = 5 ∨ p.1 = 6) ∧ ∀ l, l < 1000 → ((fQ c k = some (3, l) ↔ m 66 k = 0 ∧ m 67 k = iN l) ∧ (fQ c k = some (5, l) ↔ m 66 k = 1 ∧ m 67 k = iN l) ∧ (fQ c k = some (6, l) ↔ m 66 k = 2 ∧ m 67 k = iN l)) :=
  sty_q hJ.1.1.1 (hJ.2.2.2.2.2.2.2.1 k hk)
theorem nJ_line {i : Nat} {c : nC} {m : nM} (hJ : nJ κ i c m) {k : Nat} (hk : k < fN c 26) : ∀ p, fQ c k = some p → nLt p.1 = 26 ∧ k ∈ fL c p.1 p.2 ∧ (fL c p.1 p.2).length < 400 := by
  intro p hp
  obtain ⟨g1, g2, g3⟩ := hJ.2.2.2.2.2.2.2.2.2.1
  have h26 := hJ.1.2.2.1.1
  obtain ⟨-, -, -, -, y⟩ := hJ.2.2.2.2.2.2.2.1 k hk
  rcases y with ⟨z, d, hd, z1, -, z2, -⟩ | ⟨z, d, hd, z1, -, z2, -⟩ | ⟨z, d, hd, z1, -, z2, -⟩ | ⟨z, d, hd, z1, -, z2, -⟩ | ⟨z, d, hd, z1, -, z2, -⟩ | ⟨z, d, hd, z1, -, z2, -⟩ | ⟨z, d, hd, z1, -, z2, -⟩ | ⟨z, -, -, z2, -⟩ | ⟨z, -, -, z2, -⟩
  · rw [z2] at hp
    rw [← Option.some.inj hp]
    exact ⟨rfl, ((g1 d hd).1 k).mpr ⟨hk, z, z1⟩, by have := nLin_le (g1 d hd); show (fL c 3 d).length < 400; omega⟩
  · rw [z2] at hp
    rw [← Option.some.inj hp]
    exact ⟨rfl, ((g2 d hd).1 k).mpr ⟨hk, z, z1⟩, by have := nLin_le (g2 d hd); show (fL c 5 d).length < 400; omega⟩
  · rw [z2] at hp
    rw [← Option.some.inj hp]
    exact ⟨rfl, ((g3 d hd).1.1 k).mpr ⟨hk, z, z1⟩, by have := nLin_le (g3 d hd).1; show (fL c 6 d).length < 400; omega⟩
  · rw [z2] at hp; cases hp
  · rw [z2] at hp; cases hp
  · rw [z2] at hp; cases hp
  · rw [z2] at hp; cases hp
  · rw [z2] at hp; cases hp
  · rw [z2] at hp; cases hp
theorem nJ_lk {i : Nat} {c : nC} {m : nM} (hJ : nJ κ i c m) {k : Nat} (hk : k < fN c 26) : ∀ b, fP c 9 k 5 = some b → ∃ j, 1 ≤ j ∧ j < 4 ∧ fI c 9 k 6 = iN j := by
  intro b hb
  obtain ⟨-, -, -, -, y⟩ := hJ.2.2.2.2.2.2.2.1 k hk
  rcases y with ⟨z, d, hd, z1, -, z2, z3, -⟩ | ⟨z, d, hd, z1, -, z2, z3, -⟩ | ⟨z, d, hd, z1, -, z2, z3, -⟩ | ⟨z, d, hd, z1, -, z2, z3, -⟩ | ⟨z, d, hd, z1, -, z2, z3, -⟩ | ⟨z, d, hd, z1, -, z2, z3, -, -, ⟨n, n1, n2, n3⟩, -⟩ | ⟨z, d, hd, z1, -, z2, z3, -⟩ | ⟨z, -, -, z2, z3, -⟩ | ⟨z, -, -, z2, z3, -⟩
  · rw [z3] at hb; cases hb
  · rw [z3] at hb; cases hb
  · rw [z3] at hb; cases hb
  · rw [z3] at hb; cases hb
  · rw [z3] at hb; cases hb
  · exact ⟨n, n1, by omega, n3⟩
  · rw [z3] at hb; cases hb
  · rw [z3] at hb; cases hb
  · rw [z3] at hb; cases hb
/-- orders -/
theorem nJ_o {i : Nat} {c : nC} {m : nM} (hJ : nJ κ i c m) (hi : i % 100000 < 90000) : ∃ O, m 1 1 = iN O ∧ O < 2000000 ∧ ∀ j, j < fN c 26 → m 68 j < m 1 1 := by
  obtain ⟨h1, t, O, h2, h3, h4, h5⟩ := hJ.2.1
  exact ⟨O, h4, by omega, fun j hj => (hJ.2.2.2.2.2.2.2.2.1.1.1 j hj).2⟩
theorem iN_toInt {n : Nat} (h : n < 2 ^ 31) : (iN n).toInt = n := Int32.toInt_ofNat_of_lt h
theorem nHan_s {n : Nat} {f : Nat → Int32} : nHan (n + 1) f = nHan n f + (if f n = 7 then 1 else 0) := by
  unfold nHan
  rw [List.range_succ, List.filter_append, List.length_append]
  congr 1
  by_cases h : f n = 7
  · simp [h]
  · simp [h]
theorem nHan_eq {n : Nat} {f g : Nat → Int32} (h : ∀ j, j < n → g j = f j) : nHan n g = nHan n f := by
  induction n with
  | zero => rfl
  | succ n ih => rw [nHan_s, nHan_s, ih fun j hj => h j (by omega), h n (by omega)]
theorem nHan_mv {n k : Nat} {f g : Nat → Int32} (hk : k < n) (h0 : f k ≠ 7) (hg : ∀ j, j ≠ k → g j = f j) : nHan n g = nHan n f + (if g k = 7 then 1 else 0) := by
  induction n with
  | zero => omega
  | succ n ih =>
    rw [nHan_s, nHan_s]
    by_cases e : k = n
    · subst e
      rw [nHan_eq fun j hj => hg j (by omega), if_neg h0, Nat.add_zero]
    · rw [ih (by omega), hg n (by omega)]
      omega
/-- a parcel comes elsewhere: q is its line there -/
theorem nJ_mv {κ' : kP} {i k : Nat} {w a : Int32} {q : Option (Nat × Nat)} {c c' : nC} {m m' : nM} (hJ : nJ κ i c m) (hi : i % 100000 < 90000) (hk : k < fN c 26)
    (cI : ∀ t, t ≠ 9 → t ≠ 7 → fI c' t = fI c t) (c9 : ∀ k' j, k' ≠ k → fI c' 9 k' j = fI c 9 k' j) (cP9 : ∀ k' j, k' ≠ k → fP c' 9 k' j = fP c 9 k' j) (cQ : ∀ k', k' ≠ k → fQ c' k' = fQ c k')
    (cX : fX c' = fX c) (cN : fN c' = fN c) (cP : ∀ t, t ≠ 9 → fP c' t = fP c t) (cL : ∀ t l, fL c' t l = if q = some (t, l) then fL (cOut k c) t l ++ [k] else fL (cOut k c) t l)
    (hq : (w = 0 ∧ ∃ d, d < 5 ∧ a = iN d ∧ q = some (3, d)) ∨ (w = 1 ∧ ∃ l, l < fN c 23 ∧ a = iN l ∧ q = some (5, l)) ∨ (w = 2 ∧ ∃ l, l < fN c 23 ∧ a = iN l ∧ q = some (6, l) ∧ fI c' 9 k 2 = m 1 0) ∨ (w ≠ 0 ∧ w ≠ 1 ∧ w ≠ 2 ∧ q = none))
    (mt : ∀ t, t ≠ 1 → (t < 66 ∨ t = 76 ∨ 78 < t) → m' t = m t) (m1 : ∀ j, j ≠ 1 → m' 1 j = m 1 j) (m11 : m' 1 1 = m 1 1 + 1) (mk : ∀ t k', t ≠ 1 → k' ≠ k → m' t k' = m t k')
    (m66 : m' 66 k = w) (m67 : m' 67 k = a) (m68 : m' 68 k = m 1 1)
    (hS : nSty (fI c' 9 k) (fP c' 9 k) (fQ c' k) (fX c 23) (fX c 28) (fI c 23) (fN c 23) (fN c 27) (fN c 28) (i / 100000) (m 1 0) (m' 66) (m' 67) (m' 69) (m' 70) (m' 71) (m' 72) (m' 73) (m' 74) (m' 75) k)
    (hM : nMon (fI c 8 k) (fP c 8 k 5) (fN c 27) (i / 100000) (m 56) (m 62) (m' 66) (m' 77) (m' 78) k) (hT : nTgt (m 45) (m 51) (m 52) (m 60) (m 63) (m' 66) (m' 67) (m 79) k)
    (hV : gVan (fX c 27) (fI c 27) (fL c 11) (fI c' 9) (fN c 26) (fN c 27) (i / 100000) (m 1 0) (m 56) (m 63) (m' 66) (m' 67) (m' 78) (m 79) (m 80) (m 81) (m 82) (m 83) (m 84) (m 85) (m 86) (m 87))
    (hK : gLoc (fX c 28) (fI c' 7) (fN c 26) (fN c 28) (m' 66) (m' 67) (m' 71) (m 88) (m 89))
    (h7 : m 66 k ≠ 7) (hκ : κ' = (if w = 7 then κ.1 + 1 else κ.1, κ.2)) (h20 : ∀ l, q = some (5, l) → (fL c 5 l).length < 20) : nJ κ' (i + 1) c' m' := by
  obtain ⟨q1, q2⟩ := nJ_q hJ hk
  obtain ⟨O, o1, o2, o3⟩ := nJ_o hJ hi
  have h23 := hJ.1.1.1
  have r1 : ∀ p, q = some p → p.1 = 3 ∨ p.1 = 5 ∨ p.1 = 6 := by
    rcases hq with ⟨-, l, -, -, e⟩ | ⟨-, l, -, -, e⟩ | ⟨-, l, -, -, e, -⟩ | ⟨-, -, -, e⟩
    · rw [e]; exact fun p z => Or.inl (by rw [← Option.some.inj z])
    · rw [e]; exact fun p z => Or.inr (Or.inl (by rw [← Option.some.inj z]))
    · rw [e]; exact fun p z => Or.inr (Or.inr (by rw [← Option.some.inj z]))
    · rw [e]; exact fun p z => by cases z
  have r2 : ∀ l, l < 1000 → ((q = some (3, l) ↔ w = 0 ∧ a = iN l) ∧ (q = some (5, l) ↔ w = 1 ∧ a = iN l) ∧ (q = some (6, l) ↔ w = 2 ∧ a = iN l)) := by
    have hs : ∀ (t t' l l' : Nat), (some (t, l) : Option (Nat × Nat)) = some (t', l') ↔ t = t' ∧ l = l' := fun t t' l l' => by
      rw [Option.some.injEq, Prod.mk.injEq]
    have hn : ∀ (p : Nat × Nat), ¬ (none : Option (Nat × Nat)) = some p := fun p z => by cases z
    intro l hl
    rcases hq with ⟨z, d, hd, z1, e⟩ | ⟨z, d, hd, z1, e⟩ | ⟨z, d, hd, z1, e, -⟩ | ⟨z0, z1, z2, e⟩
    · rw [e, z, z1, hs, hs, hs, iN_inj (by omega) (by omega)]
      exact ⟨⟨fun z => ⟨rfl, z.2⟩, fun z => ⟨rfl, z.2⟩⟩, ⟨fun z => absurd z.1 (by decide), fun z => absurd z.1 c01⟩, ⟨fun z => absurd z.1 (by decide), fun z => absurd z.1 c02⟩⟩
    · rw [e, z, z1, hs, hs, hs, iN_inj (by omega) (by omega)]
      exact ⟨⟨fun z => absurd z.1 (by decide), fun z => absurd z.1 c10⟩, ⟨fun z => ⟨rfl, z.2⟩, fun z => ⟨rfl, z.2⟩⟩, ⟨fun z => absurd z.1 (by decide), fun z => absurd z.1 c12⟩⟩
    · rw [e, z, z1, hs, hs, hs, iN_inj (by omega) (by omega)]
      exact ⟨⟨fun z => absurd z.1 (by decide), fun z => absurd z.1 c20⟩, ⟨fun z => absurd z.1 (by decide), fun z => absurd z.1 c21⟩, ⟨fun z => ⟨rfl, z.2⟩, fun z => ⟨rfl, z.2⟩⟩⟩
    · rw [e]
      exact ⟨⟨fun z => absurd z (hn _), fun z => absurd z.1 z0⟩, ⟨fun z => absurd z (hn _), fun z => absurd z.1 z1⟩, ⟨fun z => absurd z (hn _), fun z => absurd z.1 z2⟩⟩
  have cL' : ∀ t, t ≠ 3 → t ≠ 5 → t ≠ 6 → fL c' t = fL c t := by
    intro t t3 t5 t6
    funext l
    rw [cL, if_neg, cOut_L, if_neg]
    · intro z
      rcases q1 _ z with e | e | e
      · exact t3 e
      · exact t5 e
      · exact t6 e
    · intro z
      rcases r1 _ z with e | e | e
      · exact t3 e
      · exact t5 e
      · exact t6 e
  have e66 : ∀ j, j ≠ k → m' 66 j = m 66 j := fun j hj => mk 66 j (by decide) hj
  have e67 : ∀ j, j ≠ k → m' 67 j = m 67 j := fun j hj => mk 67 j (by decide) hj
  have e68 : ∀ j, j ≠ k → m' 68 j = m 68 j := fun j hj => mk 68 j (by decide) hj
  have ep : (i + 1) / 100000 = i / 100000 := by omega
  unfold nJ at hJ ⊢
  rw [ep]
  obtain ⟨j1, j2, j3, j4, j5, j6, j7, j8, j9, j10, j11, j12, j13, j14, j15, j16, j17, j18, j19, j20⟩ := hJ
  have jr : gRow (fN c 23) (fL c' 5) := by
    intro l hl
    have := j19 l hl
    have he := List.length_erase_le (l := fL c 5 l) (a := k)
    rw [cL, cOut_L]
    split
    · rename_i e
      have := h20 l e
      rw [List.length_append]
      split <;> simp only [List.length_cons, List.length_nil] <;> omega
    · split <;> omega
  simp (disch := decide) only [cI, cX, cN, cP, mt, m1, cL']
  refine ⟨?_, ?_, j3, j4, j5, j6, ?_, ?_, ⟨?_, fun j hj => ?_⟩, ?_, ?_, hV, hK, j14, j15, by rw [hκ]; exact j16, by rw [hκ, nHan_mv hk h7 e66, m66, j17]; split <;> rfl, j18, jr, j20⟩
  · unfold gCnt at j1 ⊢
    simp (disch := decide) only [m1]
    exact j1
  · obtain ⟨h1, t, O', h2, h3, h4, h5⟩ := j2
    refine ⟨by rw [m1 0 (by decide)]; exact h1, t, O' + 1, h2, by rw [m1 0 (by decide)]; exact h3, by rw [m11, h4, iN_add1], by omega⟩
  · intro j hj hj4
    have := j7 j hj hj4
    rw [mk 77 j (by decide) (by omega), mk 78 j (by decide) (by omega)]
    exact this
  · intro j hj
    by_cases e : j = k
    · subst e; exact hS
    · have := j8 j hj
      have e9 : fI c' 9 j = fI c 9 j := funext fun x => c9 j x e
      have e8 : fP c' 9 j = fP c 9 j := funext fun x => cP9 j x e
      rw [e9, e8, cQ j e]
      unfold nSty at this ⊢
      simp only [mk 66 j (by decide) e, mk 67 j (by decide) e, mk 69 j (by decide) e, mk 70 j (by decide) e, mk 71 j (by decide) e, mk 72 j (by decide) e, mk 73 j (by decide) e, mk 74 j (by decide) e, mk 75 j (by decide) e]
      exact this
  · obtain ⟨⟨g1, g2⟩, -⟩ := j9
    have hO1 : m' 1 1 = iN (O + 1) := by rw [m11, o1, iN_add1]
    have hlt : ∀ j, j < fN c 26 → j ≠ k → m 68 j ≠ m 1 1 := by
      intro j hj _ z
      have := o3 j hj
      rw [z, i32_ltt] at this
      omega
    refine ⟨fun j hj => ?_, fun j j' hj hj' e => ?_⟩
    · have h0 := g1 j hj
      rw [hO1]
      rw [o1] at h0 m68
      by_cases e : j = k
      · subst e
        rw [m68]
        refine ⟨?_, (iN_lt (by omega) (by omega)).mpr (by omega)⟩
        rw [Int32.le_iff_toInt_le, iN_toInt (by omega), show (0 : Int32).toInt = 0 from rfl]
        omega
      · rw [e68 j e]
        refine ⟨h0.1, ?_⟩
        have h9 := h0.2
        rw [i32_ltt, iN_toInt (by omega)] at h9 ⊢
        omega
    · by_cases e1 : j = k
      · by_cases e2 : j' = k
        · rw [e1, e2]
        · rw [e1, m68, e68 j' e2] at e
          exact absurd e.symm (hlt j' hj' e2)
      · by_cases e2 : j' = k
        · rw [e2, m68, e68 j e1] at e
          exact absurd e (hlt j hj e1)
        · rw [e68 j e1, e68 j' e2] at e
          exact g2 j j' hj hj' e
  · by_cases e : j = k
    · subst e; exact hT
    · have := j9.2 j hj
      unfold nTgt at this ⊢
      rw [e66 j e, e67 j e]
      exact this
  · obtain ⟨g1, g2, g3⟩ := j10
    have hl : ∀ (t l : Nat) (x : Int32), (q = some (t, l) ↔ w = x ∧ a = iN l) → (fQ c k = some (t, l) ↔ m 66 k = x ∧ m 67 k = iN l) → nLin (fN c 26) (m 66) (m 67) (m 68) x (iN l) (fL c t l) → nLin (fN c 26) (m' 66) (m' 67) (m' 68) x (iN l) (fL c' t l) := by
      intro t l x h1 h2 h3
      have := nLin_mv h3 hk o3 e66 e67 e68 m66 m67 m68
      rw [cL, cOut_L]
      simp only [h1, h2]
      exact this
    refine ⟨fun d hd => ?_, fun l hl' => ?_, fun l hl' => ?_⟩
    · exact hl 3 d 0 (r2 d (by omega)).1 (q2 d (by omega)).1 (g1 d hd)
    · exact hl 5 l 1 (r2 l (by omega)).2.1 (q2 l (by omega)).2.1 (g2 l hl')
    · refine ⟨hl 6 l 2 (r2 l (by omega)).2.2 (q2 l (by omega)).2.2 (g3 l hl').1, ?_⟩
      have hp := (g3 l hl').2
      have hm := (g3 l hl').1.1
      have nd := nLin_nd (g3 l hl').1
      rw [cL, cOut_L]
      have hp0 : (if fQ c k = some (6, l) then (fL c 6 l).erase k else fL c 6 l).Pairwise (fun i j => fI c 9 i 2 ≤ fI c 9 j 2) := by
        split
        · exact hp.sublist List.erase_sublist
        · exact hp
      have h0 : ∀ j, j ∈ (if fQ c k = some (6, l) then (fL c 6 l).erase k else fL c 6 l) → j < fN c 26 ∧ j ≠ k := by
        intro j
        split
        · rw [List.Nodup.mem_erase_iff nd, hm j]
          exact fun z => ⟨z.2.1, z.1⟩
        · rename_i e
          rw [hm j]
          intro z
          refine ⟨z.1, fun y => ?_⟩
          subst y
          exact e (((q2 l (by omega)).2.2).mpr z.2)
      revert hp0 h0
      generalize (if fQ c k = some (6, l) then (fL c 6 l).erase k else fL c 6 l) = M
      intro hp0 h0
      have hp1 : M.Pairwise (fun i j => fI c' 9 i 2 ≤ fI c' 9 j 2) := by
        refine List.Pairwise.imp_of_mem ?_ hp0
        intro i j hi hj hij
        rw [c9 i 2 (h0 i hi).2, c9 j 2 (h0 j hj).2]
        exact hij
      by_cases e : q = some (6, l)
      · rw [if_pos e, List.pairwise_append]
        refine ⟨hp1, List.pairwise_singleton _ _, fun i hi j hj => ?_⟩
        rw [List.mem_singleton] at hj
        subst hj
        rw [c9 i 2 (h0 i hi).2]
        have h2 : fI c' 9 j 2 = m 1 0 := by
          rcases hq with ⟨-, d, -, -, z⟩ | ⟨-, d, -, -, z⟩ | ⟨-, d, -, -, -, z⟩ | ⟨-, -, -, z⟩
          · rw [z] at e; cases e
          · rw [z] at e; cases e
          · exact z
          · rw [z] at e; cases e
        rw [h2]
        exact (j8 i (h0 i hi).1).2.2.2.1
      · rw [if_neg e]
        exact hp1
  · intro j hj
    by_cases e : j = k
    · subst e; exact hM
    · have := j11 j hj
      unfold nMon at this ⊢
      simp only [mk 66 j (by decide) e, mk 77 j (by decide) e, mk 78 j (by decide) e]
      exact this
/-- the rounds that are not under way, if the parcel is in none of them and comes in none -/
theorem gVan_mv {X : Nat → Nat → Nat} {f : Nat → Nat → Int32} {L : Nat → List Nat} {h h' : Nat → Nat → Int32} {n nv k pp : Nat} {ck : Int32} {a b w t s e1 e2 e3 e4 e5 e6 e7 e8 e9 w' t' s' : Nat → Int32}
    (H : gVan X f L h n nv pp ck a b w t s e1 e2 e3 e4 e5 e6 e7 e8 e9) (hr : ∀ v, v < nv → pp ≠ 2 + v → k ∉ L v) (w4 : ∀ v, v < nv → pp ≠ 2 + v → w' k = 4 → t' k ≠ iN v) (s0 : ∀ v, v < nv → pp ≠ 2 + v → s' k ≠ iN (1 + v))
    (hw : ∀ j, j ≠ k → w' j = w j) (ht : ∀ j, j ≠ k → t' j = t j) (hs : ∀ j, j ≠ k → s' j = s j) (hh : ∀ j, j ≠ k → h' j 9 = h j 9) :
    gVan X f L h' n nv pp ck a b w' t' s' e1 e2 e3 e4 e5 e6 e7 e8 e9 := by
  obtain ⟨v1, v2, v3⟩ := H
  refine ⟨fun v hv => ?_, v2, v3⟩
  obtain ⟨y1, y2, y3, y4, y5⟩ := v1 v hv
  refine ⟨y1, y2, y3, fun hp => ?_, y5⟩
  obtain ⟨r1, r2, r3, r4, r5, r6⟩ := y4 hp
  refine ⟨r1, r2, r3, fun j hj z1 z2 => ?_, fun j hj z => ?_, fun j k' hjk => ?_⟩
  · have e : j ≠ k := fun z => w4 v hv hp (by rw [← z]; exact z1) (by rw [← z]; exact z2)
    rw [hw j e] at z1
    rw [ht j e] at z2
    exact r4 j hj z1 z2
  · have e : j ≠ k := fun y => s0 v hv hp (by rw [← y]; exact z)
    rw [hs j e] at z
    exact r5 j hj z
  · have := r6 j k' hjk
    have e : k' ≠ k := by
      intro z
      subst z
      exact hr v hv hp (List.mem_of_getElem? hjk)
    rw [hw k' e, ht k' e, hs k' e, hh k' e]
    exact this
/-- a parcel that is on no van and is not handed over is in no round -/
theorem nJ_nl {i k : Nat} {c : nC} {m : nM} (hJ : nJ κ i c m) (h4 : m 66 k ≠ 4) (h7 : m 66 k ≠ 7) : ∀ v, v < fN c 27 → i / 100000 ≠ 2 + v → k ∉ fL c 11 v := by
  intro v hv hp hmem
  obtain ⟨-, -, -, y4, -⟩ := hJ.2.2.2.2.2.2.2.2.2.2.2.1.1 v hv
  obtain ⟨-, -, -, -, -, r6⟩ := y4 hp
  obtain ⟨n, n1⟩ := List.getElem?_of_mem hmem
  rcases (r6 n k n1).2.2.2.2 with z | z
  · exact h4 z.1
  · exact h7 z.1
end OPP
end KAP
