/-! ===== what the law lets do: made by wip/p46/gen2/mk98zq.py ===== -/
theorem nHl_E : ∀ {hs : List (Nat × Int32)} {E : Nat} {x : Int32}, nHl hs E = some x → ∃ p, p ∈ hs ∧ p.1 = E
  | [], E, x, h => by cases h
  | (e, y) :: l, E, x, h => by
    unfold nHl at h
    by_cases hE : E = e
    · exact ⟨(e, y), List.mem_cons_self, hE.symm⟩
    · rw [if_neg hE] at h
      obtain ⟨p, p1, p2⟩ := nHl_E h
      exact ⟨p, List.mem_cons_of_mem _ p1, p2⟩
section DDO
variable {xs : Nat → Int32} {nx : Nat}
/-- what a call that the law makes comes to -/
def dDo (xs : Nat → Int32) (nx : Nat) (κ : kP) (P : nC → nM → kP → nC → nM → Int32 → Prop) (F : nC → nM → Nat → Prop) (i : Nat) (c : nC) (m a : nM) (q : Nat) (J : Nat → Int64) (L : nLs) : Prop := ∃ (κ' : kP) (c' : nC) (m' : nM), nJ κ' (i + 1) c' m' ∧
  ((∃ v, P c m κ' c' m' v ∧ R1 xs nx 1 0 L [] (c, a, q, J) = nVl v c' (a, q, J)) ∨
   ((κ' = κ ∧ c' = c) ∧ ((F c m 0 ∧ R1 xs nx 1 0 L [] (c, a, q, J) = nVl (-3000000) c (a, q + 1, J)) ∨ (F c m 1 ∧ R1 xs nx 1 0 L [] (c, a, q, J) = nVl (-2000000) c (a, q + 1, J)) ∨ (F c m 2 ∧ R1 xs nx 1 0 L [] (c, a, q, J) = nVl (-1000000) c (a, q + 1, J)))))
theorem dDo_of {κ : kP} {P : nC → nM → kP → nC → nM → Int32 → Prop} {F : nC → nM → Nat → Prop} {i y : Nat} {hs : List (Nat × Int32)} {L L' : nLs} {mm : nS → Option nOut} {c : nC} {m a : nM} {q : Nat} {J : Nat → Int64} (hy : yC y = true) (hs3 : ∀ p, p ∈ hs → p.1 = 0 ∨ p.1 = 1 ∨ p.1 = 2) (hD : nDoes κ P F i hs (fun s => R1 xs nx y 0 L' [] s) mm) (hJ : nJ κ i c m)
    (hrun : ∀ s, R1 xs nx 1 0 L [] s = bI (R1 xs nx y 0 L' [] s) (fun x s => some (.inl (some (vI x)), s)) (nHq [(0, -3000000), (1, -2000000), (2, -1000000)])) : dDo xs nx κ P F i c m a q J L := by
  obtain ⟨κ', c', m', v, h1, -, h3⟩ := hD (c, m, q, J) hJ
  rcases h3 with ⟨g1, -, g3⟩ | ⟨E, g1, g2, -, g4, g5, g6⟩
  · refine ⟨κ', c', m', h1, Or.inl ⟨v, g3, ?_⟩⟩
    have g := R1_sw (a := a) hy g1
    rw [hrun, g]
    rfl
  · have g4 : c' = c := g4
    subst g4
    have g := R1_sw (a := a) hy g1
    obtain ⟨p, p1, p2⟩ := nHl_E g2
    have hr := hrun (c', a, q, J)
    rw [g] at hr
    refine ⟨κ', c', m', h1, Or.inr ⟨⟨g5, rfl⟩, ?_⟩⟩
    rcases hs3 p p1 with e | e | e
    · rw [e] at p2
      subst p2
      exact Or.inl ⟨g6, hr⟩
    · rw [e] at p2
      subst p2
      exact Or.inr (Or.inl ⟨g6, hr⟩)
    · rw [e] at p2
      subst p2
      exact Or.inr (Or.inr ⟨g6, hr⟩)
/-- the same, where the answer is whether it is so -/
theorem dDoB_of {κ : kP} {P : nC → nM → kP → nC → nM → Int32 → Prop} {F : nC → nM → Nat → Prop} {i y : Nat} {hs : List (Nat × Int32)} {L L' : nLs} {mm : nS → Option nOut} {c : nC} {m a : nM} {q : Nat} {J : Nat → Int64} (hy : yC y = true) (hs3 : ∀ p, p ∈ hs → p.1 = 0 ∨ p.1 = 1 ∨ p.1 = 2) (hD : nDoesB κ P F i hs (fun s => R1 xs nx y 0 L' [] s) mm) (hJ : nJ κ i c m)
    (hrun : ∀ s, R1 xs nx 1 0 L [] s = bI (R1 xs nx y 0 L' [] s) (fun x s => if x = 0 then some (.inl (some (vI 0)), s) else some (.inl (some (vI 1)), s)) (nHq [(0, -3000000), (1, -2000000), (2, -1000000)])) : dDo xs nx κ P F i c m a q J L := by
  obtain ⟨κ', c', m', v, h1, hb, -, h3⟩ := hD (c, m, q, J) hJ
  rcases h3 with ⟨g1, -, g3⟩ | ⟨E, g1, g2, -, g4, g5, g6⟩
  · refine ⟨κ', c', m', h1, Or.inl ⟨v, g3, ?_⟩⟩
    have g := R1_sw (a := a) hy g1
    rw [hrun, g]
    show (if v = 0 then _ else _) = _
    rcases hb with hb | hb
    · rw [if_pos hb, hb]
      rfl
    · rw [if_neg (by rw [hb]; decide), hb]
      rfl
  · have g4 : c' = c := g4
    subst g4
    have g := R1_sw (a := a) hy g1
    obtain ⟨p, p1, p2⟩ := nHl_E g2
    have hr := hrun (c', a, q, J)
    rw [g] at hr
    refine ⟨κ', c', m', h1, Or.inr ⟨⟨g5, rfl⟩, ?_⟩⟩
    rcases hs3 p p1 with e | e | e
    · rw [e] at p2
      subst p2
      exact Or.inl ⟨g6, hr⟩
    · rw [e] at p2
      subst p2
      exact Or.inr (Or.inl ⟨g6, hr⟩)
    · rw [e] at p2
      subst p2
      exact Or.inr (Or.inr ⟨g6, hr⟩)
variable {κ : kP} {i : Nat} {c : nC} {m a : nM} {q : Nat} {J : Nat → Int64}
theorem doR0 {a1 a2 a3 a4 a5 a6 : Int32} (s : nS) : R1 xs nx 1 0 [some (vR 0 (some 0)), some (vI 0), some (vI a1), some (vI a2), some (vI a3), some (vI a4), some (vI a5), some (vI a6), none] [] s = bI (R1 xs nx 81 0 [some (vR 0 (some 0)), some (vI a1), some (vI a2), none, none] [] s) (fun x s => some (.inl (some (vI x)), s)) (nHq [(0, -3000000), (1, -2000000), (2, -1000000)]) := by
  rw [e_1_0, if_pos rfl, hxq1 (by decide)]
theorem do0 (hi : i < 512) (hJ : nJ κ i c m) (a1 a2 a3 a4 a5 a6 : Int32) : dDo xs nx κ (zP0 κ a1 a2) (zF0 a1 a2) i c m a q J [some (vR 0 (some 0)), some (vI 0), some (vI a1), some (vI a2), some (vI a3), some (vI a4), some (vI a5), some (vI a6), none] :=
  dDo_of (by decide) (by decide) (op0 i hi a1 a2) hJ (fun s => doR0 s)
theorem doR1 {a1 a2 a3 a4 a5 a6 : Int32} (s : nS) : R1 xs nx 1 0 [some (vR 0 (some 0)), some (vI 1), some (vI a1), some (vI a2), some (vI a3), some (vI a4), some (vI a5), some (vI a6), none] [] s = bI (R1 xs nx 82 0 [some (vR 0 (some 0)), some (vI a1), some (vI a2), some (vI a3), none, none] [] s) (fun x s => some (.inl (some (vI x)), s)) (nHq [(0, -3000000), (1, -2000000), (2, -1000000)]) := by
  rw [e_1_0, if_neg (show ¬ (1 : Int32) = 0 by decide), if_pos rfl, hxq1 (by decide)]
theorem do1 (hi : i < 512) (hJ : nJ κ i c m) (a1 a2 a3 a4 a5 a6 : Int32) : dDo xs nx κ (zP1 κ a1 a2 a3) (zF1 a1 a2 a3) i c m a q J [some (vR 0 (some 0)), some (vI 1), some (vI a1), some (vI a2), some (vI a3), some (vI a4), some (vI a5), some (vI a6), none] :=
  dDo_of (by decide) (by decide) (op1 i hi a1 a2 a3) hJ (fun s => doR1 s)
theorem doR2 {a1 a2 a3 a4 a5 a6 : Int32} (hb : a3 = 0 ∨ a3 = 1) (s : nS) : R1 xs nx 1 0 [some (vR 0 (some 0)), some (vI 2), some (vI a1), some (vI a2), some (vI a3), some (vI a4), some (vI a5), some (vI a6), none] [] s = bI (R1 xs nx 83 0 [some (vR 0 (some 0)), some (vI a1), some (vI a2), some (vI a3), none, none] [] s) (fun x s => some (.inl (some (vI x)), s)) (nHq [(0, -3000000), (1, -2000000), (2, -1000000)]) := by
  rw [e_1_0, if_neg (show ¬ (2 : Int32) = 0 by decide), if_neg (show ¬ (2 : Int32) = 1 by decide), if_pos rfl]
  rcases hb with rfl | rfl
  · rw [if_neg (by decide), d_1_48]
  · rw [if_pos rfl, d_1_48]
theorem do2 (hi : i < 512) (hJ : nJ κ i c m) (a1 a2 a3 a4 a5 a6 : Int32) (hb : a3 = 0 ∨ a3 = 1) : dDo xs nx κ (zP2 κ a1 a2) (zF2 a1 a2) i c m a q J [some (vR 0 (some 0)), some (vI 2), some (vI a1), some (vI a2), some (vI a3), some (vI a4), some (vI a5), some (vI a6), none] :=
  dDo_of (by decide) (by decide) (op2 i hi a1 a2 a3 hb) hJ (fun s => doR2 hb s)
theorem doR3 {a1 a2 a3 a4 a5 a6 : Int32} (hb : a4 = 0 ∨ a4 = 1) (s : nS) : R1 xs nx 1 0 [some (vR 0 (some 0)), some (vI 3), some (vI a1), some (vI a2), some (vI a3), some (vI a4), some (vI a5), some (vI a6), none] [] s = bI (R1 xs nx 85 0 [some (vR 0 (some 0)), some (vI a1), some (vI a2), some (vI a3), some (vI a4), none, none, none] [] s) (fun x s => some (.inl (some (vI x)), s)) (nHq [(0, -3000000), (1, -2000000), (2, -1000000)]) := by
  rw [e_1_0, if_neg (show ¬ (3 : Int32) = 0 by decide), if_neg (show ¬ (3 : Int32) = 1 by decide), if_neg (show ¬ (3 : Int32) = 2 by decide), if_pos rfl]
  rcases hb with rfl | rfl
  · rw [if_neg (by decide), d_1_75]
  · rw [if_pos rfl, d_1_75]
theorem do3 (hi : i < 512) (hJ : nJ κ i c m) (a1 a2 a3 a4 a5 a6 : Int32) (hb : a4 = 0 ∨ a4 = 1) : dDo xs nx κ (zP3 κ a1 a2 a3 a4) (zF3 a1 a2 a3 a4) i c m a q J [some (vR 0 (some 0)), some (vI 3), some (vI a1), some (vI a2), some (vI a3), some (vI a4), some (vI a5), some (vI a6), none] :=
  dDo_of (by decide) (by decide) (op3 i hi a1 a2 a3 a4 hb) hJ (fun s => doR3 hb s)
theorem doR4 {a1 a2 a3 a4 a5 a6 : Int32} (s : nS) : R1 xs nx 1 0 [some (vR 0 (some 0)), some (vI 4), some (vI a1), some (vI a2), some (vI a3), some (vI a4), some (vI a5), some (vI a6), none] [] s = bI (R1 xs nx 87 0 [some (vR 0 (some 0)), some (vI a1), some (vI a2), some (vI a3), some (vI a4), some (vI a5), some (vI a6), none, none] [] s) (fun x s => some (.inl (some (vI x)), s)) (nHq [(0, -3000000), (1, -2000000), (2, -1000000)]) := by
  rw [e_1_0, if_neg (show ¬ (4 : Int32) = 0 by decide), if_neg (show ¬ (4 : Int32) = 1 by decide), if_neg (show ¬ (4 : Int32) = 2 by decide), if_neg (show ¬ (4 : Int32) = 3 by decide), if_pos rfl, hxq1 (by decide)]
theorem do4 (hi : i < 512) (hJ : nJ κ i c m) (a1 a2 a3 a4 a5 a6 : Int32) : dDo xs nx κ (zP4 κ a1 a2 a3 a4 a5 a6) (zF4 a1 a2 a3 a4 a5 a6) i c m a q J [some (vR 0 (some 0)), some (vI 4), some (vI a1), some (vI a2), some (vI a3), some (vI a4), some (vI a5), some (vI a6), none] :=
  dDo_of (by decide) (by decide) (op4 i hi a1 a2 a3 a4 a5 a6) hJ (fun s => doR4 s)
theorem doR5 {a1 a2 a3 a4 a5 a6 : Int32} (s : nS) : R1 xs nx 1 0 [some (vR 0 (some 0)), some (vI 5), some (vI a1), some (vI a2), some (vI a3), some (vI a4), some (vI a5), some (vI a6), none] [] s = bI (R1 xs nx 88 0 [some (vR 0 (some 0)), some (vI a1), some (vI a2), some (vI a3), some (vI a4), none, none, none, none] [] s) (fun x s => some (.inl (some (vI x)), s)) (nHq [(0, -3000000), (1, -2000000), (2, -1000000)]) := by
  rw [e_1_0, if_neg (show ¬ (5 : Int32) = 0 by decide), if_neg (show ¬ (5 : Int32) = 1 by decide), if_neg (show ¬ (5 : Int32) = 2 by decide), if_neg (show ¬ (5 : Int32) = 3 by decide), if_neg (show ¬ (5 : Int32) = 4 by decide), if_pos rfl, hxq1 (by decide)]
theorem do5 (hi : i < 512) (hJ : nJ κ i c m) (a1 a2 a3 a4 a5 a6 : Int32) : dDo xs nx κ (zP5 κ a1 a2 a3 a4) (zF5 a1 a2 a3 a4) i c m a q J [some (vR 0 (some 0)), some (vI 5), some (vI a1), some (vI a2), some (vI a3), some (vI a4), some (vI a5), some (vI a6), none] :=
  dDo_of (by decide) (by decide) (op5 i hi a1 a2 a3 a4) hJ (fun s => doR5 s)
theorem doR6 {a1 a2 a3 a4 a5 a6 : Int32} (s : nS) : R1 xs nx 1 0 [some (vR 0 (some 0)), some (vI 6), some (vI a1), some (vI a2), some (vI a3), some (vI a4), some (vI a5), some (vI a6), none] [] s = bI (R1 xs nx 89 0 [some (vR 0 (some 0)), some (vI a1), some (vI a2), none] [] s) (fun x s => some (.inl (some (vI x)), s)) (nHq [(0, -3000000), (1, -2000000), (2, -1000000)]) := by
  rw [e_1_0, if_neg (show ¬ (6 : Int32) = 0 by decide), if_neg (show ¬ (6 : Int32) = 1 by decide), if_neg (show ¬ (6 : Int32) = 2 by decide), if_neg (show ¬ (6 : Int32) = 3 by decide), if_neg (show ¬ (6 : Int32) = 4 by decide), if_neg (show ¬ (6 : Int32) = 5 by decide), if_pos rfl, hxq1 (by decide)]
theorem do6 (hi : i < 512) (hJ : nJ κ i c m) (a1 a2 a3 a4 a5 a6 : Int32) : dDo xs nx κ (zP6 κ a1 a2) (zF6 a1 a2) i c m a q J [some (vR 0 (some 0)), some (vI 6), some (vI a1), some (vI a2), some (vI a3), some (vI a4), some (vI a5), some (vI a6), none] :=
  dDo_of (by decide) (by decide) (op6 i hi a1 a2) hJ (fun s => doR6 s)
theorem doR7 {a1 a2 a3 a4 a5 a6 : Int32} (s : nS) : R1 xs nx 1 0 [some (vR 0 (some 0)), some (vI 7), some (vI a1), some (vI a2), some (vI a3), some (vI a4), some (vI a5), some (vI a6), none] [] s = bI (R1 xs nx 91 0 [some (vR 0 (some 0)), some (vI a1), some (vI a2), some (vI a3), none] [] s) (fun x s => some (.inl (some (vI x)), s)) (nHq [(0, -3000000), (1, -2000000), (2, -1000000)]) := by
  rw [e_1_0, if_neg (show ¬ (7 : Int32) = 0 by decide), if_neg (show ¬ (7 : Int32) = 1 by decide), if_neg (show ¬ (7 : Int32) = 2 by decide), if_neg (show ¬ (7 : Int32) = 3 by decide), if_neg (show ¬ (7 : Int32) = 4 by decide), if_neg (show ¬ (7 : Int32) = 5 by decide), if_neg (show ¬ (7 : Int32) = 6 by decide), if_pos rfl, hxq1 (by decide)]
theorem do7 (hi : i < 512) (hJ : nJ κ i c m) (a1 a2 a3 a4 a5 a6 : Int32) : dDo xs nx κ (zP7 κ a1 a2 a3) (zF7 a1 a2 a3) i c m a q J [some (vR 0 (some 0)), some (vI 7), some (vI a1), some (vI a2), some (vI a3), some (vI a4), some (vI a5), some (vI a6), none] :=
  dDo_of (by decide) (by decide) (op7 i hi a1 a2 a3) hJ (fun s => doR7 s)
theorem doR8 {a1 a2 a3 a4 a5 a6 : Int32} (hb : a6 = 0 ∨ a6 = 1) (s : nS) : R1 xs nx 1 0 [some (vR 0 (some 0)), some (vI 8), some (vI a1), some (vI a2), some (vI a3), some (vI a4), some (vI a5), some (vI a6), none] [] s = bI (R1 xs nx 96 0 [some (vR 0 (some 0)), some (vI a1), some (vI a2), some (vI a3), some (vI a4), some (vI a5), some (vI a6), none, none, none, none] [] s) (fun x s => some (.inl (some (vI x)), s)) (nHq [(0, -3000000), (1, -2000000), (2, -1000000)]) := by
  rw [e_1_0, if_neg (show ¬ (8 : Int32) = 0 by decide), if_neg (show ¬ (8 : Int32) = 1 by decide), if_neg (show ¬ (8 : Int32) = 2 by decide), if_neg (show ¬ (8 : Int32) = 3 by decide), if_neg (show ¬ (8 : Int32) = 4 by decide), if_neg (show ¬ (8 : Int32) = 5 by decide), if_neg (show ¬ (8 : Int32) = 6 by decide), if_neg (show ¬ (8 : Int32) = 7 by decide), if_pos rfl]
  rcases hb with rfl | rfl
  · rw [if_neg (by decide), d_1_179]
  · rw [if_pos rfl, d_1_179]
theorem do8 (hi : i < 512) (hJ : nJ κ i c m) (a1 a2 a3 a4 a5 a6 : Int32) (hb : a6 = 0 ∨ a6 = 1) : dDo xs nx κ (zP8 κ a1 a2 a3 a4 a5) (zF8 a1 a2 a3 a4 a5) i c m a q J [some (vR 0 (some 0)), some (vI 8), some (vI a1), some (vI a2), some (vI a3), some (vI a4), some (vI a5), some (vI a6), none] :=
  dDo_of (by decide) (by decide) (op8 i hi a1 a2 a3 a4 a5 a6 hb) hJ (fun s => doR8 hb s)
theorem doR9 {a1 a2 a3 a4 a5 a6 : Int32} (s : nS) : R1 xs nx 1 0 [some (vR 0 (some 0)), some (vI 9), some (vI a1), some (vI a2), some (vI a3), some (vI a4), some (vI a5), some (vI a6), none] [] s = bI (R1 xs nx 98 0 [some (vR 0 (some 0)), some (vI a1), some (vI a2), some (vI a3), none] [] s) (fun x s => some (.inl (some (vI x)), s)) (nHq [(0, -3000000), (1, -2000000), (2, -1000000)]) := by
  rw [e_1_0, if_neg (show ¬ (9 : Int32) = 0 by decide), if_neg (show ¬ (9 : Int32) = 1 by decide), if_neg (show ¬ (9 : Int32) = 2 by decide), if_neg (show ¬ (9 : Int32) = 3 by decide), if_neg (show ¬ (9 : Int32) = 4 by decide), if_neg (show ¬ (9 : Int32) = 5 by decide), if_neg (show ¬ (9 : Int32) = 6 by decide), if_neg (show ¬ (9 : Int32) = 7 by decide), if_neg (show ¬ (9 : Int32) = 8 by decide), if_pos rfl, hxq1 (by decide)]
theorem do9 (hi : i < 512) (hJ : nJ κ i c m) (a1 a2 a3 a4 a5 a6 : Int32) : dDo xs nx κ (zP9 κ a1 a2 a3) (zF9 a1 a2 a3) i c m a q J [some (vR 0 (some 0)), some (vI 9), some (vI a1), some (vI a2), some (vI a3), some (vI a4), some (vI a5), some (vI a6), none] :=
  dDo_of (by decide) (by decide) (op9 i hi a1 a2 a3) hJ (fun s => doR9 s)
theorem doR10 {a1 a2 a3 a4 a5 a6 : Int32} (s : nS) : R1 xs nx 1 0 [some (vR 0 (some 0)), some (vI 10), some (vI a1), some (vI a2), some (vI a3), some (vI a4), some (vI a5), some (vI a6), none] [] s = bI (R1 xs nx 99 0 [some (vR 0 (some 0)), some (vI a1), some (vI a2), some (vI a3), some (vI a4), none] [] s) (fun x s => some (.inl (some (vI x)), s)) (nHq [(0, -3000000), (1, -2000000), (2, -1000000)]) := by
  rw [e_1_0, if_neg (show ¬ (10 : Int32) = 0 by decide), if_neg (show ¬ (10 : Int32) = 1 by decide), if_neg (show ¬ (10 : Int32) = 2 by decide), if_neg (show ¬ (10 : Int32) = 3 by decide), if_neg (show ¬ (10 : Int32) = 4 by decide), if_neg (show ¬ (10 : Int32) = 5 by decide), if_neg (show ¬ (10 : Int32) = 6 by decide), if_neg (show ¬ (10 : Int32) = 7 by decide), if_neg (show ¬ (10 : Int32) = 8 by decide), if_neg (show ¬ (10 : Int32) = 9 by decide), if_pos rfl, hxq1 (by decide)]
theorem do10 (hi : i < 512) (hJ : nJ κ i c m) (a1 a2 a3 a4 a5 a6 : Int32) : dDo xs nx κ (zP10 κ a1 a2 a3 a4) (zF10 a1 a2 a3 a4) i c m a q J [some (vR 0 (some 0)), some (vI 10), some (vI a1), some (vI a2), some (vI a3), some (vI a4), some (vI a5), some (vI a6), none] :=
  dDo_of (by decide) (by decide) (op10 i hi a1 a2 a3 a4) hJ (fun s => doR10 s)
theorem doR11 {a1 a2 a3 a4 a5 a6 : Int32} (s : nS) : R1 xs nx 1 0 [some (vR 0 (some 0)), some (vI 11), some (vI a1), some (vI a2), some (vI a3), some (vI a4), some (vI a5), some (vI a6), none] [] s = bI (R1 xs nx 100 0 [some (vR 0 (some 0)), some (vI a1), some (vI a2), none, none, none] [] s) (fun x s => if x = 0 then some (.inl (some (vI 0)), s) else some (.inl (some (vI 1)), s)) (nHq [(0, -3000000), (1, -2000000), (2, -1000000)]) := by
  rw [e_1_0, if_neg (show ¬ (11 : Int32) = 0 by decide), if_neg (show ¬ (11 : Int32) = 1 by decide), if_neg (show ¬ (11 : Int32) = 2 by decide), if_neg (show ¬ (11 : Int32) = 3 by decide), if_neg (show ¬ (11 : Int32) = 4 by decide), if_neg (show ¬ (11 : Int32) = 5 by decide), if_neg (show ¬ (11 : Int32) = 6 by decide), if_neg (show ¬ (11 : Int32) = 7 by decide), if_neg (show ¬ (11 : Int32) = 8 by decide), if_neg (show ¬ (11 : Int32) = 9 by decide), if_neg (show ¬ (11 : Int32) = 10 by decide), if_pos rfl, hxq1 (by decide)]
theorem do11 (hi : i < 512) (hJ : nJ κ i c m) (a1 a2 a3 a4 a5 a6 : Int32) : dDo xs nx κ (zP11 κ a1 a2) (zF11 a1 a2) i c m a q J [some (vR 0 (some 0)), some (vI 11), some (vI a1), some (vI a2), some (vI a3), some (vI a4), some (vI a5), some (vI a6), none] :=
  dDoB_of (by decide) (by decide) (op11 i hi a1 a2) hJ (fun s => doR11 s)
theorem doR12 {a1 a2 a3 a4 a5 a6 : Int32} (s : nS) : R1 xs nx 1 0 [some (vR 0 (some 0)), some (vI 12), some (vI a1), some (vI a2), some (vI a3), some (vI a4), some (vI a5), some (vI a6), none] [] s = bI (R1 xs nx 101 0 [some (vR 0 (some 0)), some (vI a1), some (vI a2), some (vI a3), none, none] [] s) (fun x s => some (.inl (some (vI x)), s)) (nHq [(0, -3000000), (1, -2000000), (2, -1000000)]) := by
  rw [e_1_0, if_neg (show ¬ (12 : Int32) = 0 by decide), if_neg (show ¬ (12 : Int32) = 1 by decide), if_neg (show ¬ (12 : Int32) = 2 by decide), if_neg (show ¬ (12 : Int32) = 3 by decide), if_neg (show ¬ (12 : Int32) = 4 by decide), if_neg (show ¬ (12 : Int32) = 5 by decide), if_neg (show ¬ (12 : Int32) = 6 by decide), if_neg (show ¬ (12 : Int32) = 7 by decide), if_neg (show ¬ (12 : Int32) = 8 by decide), if_neg (show ¬ (12 : Int32) = 9 by decide), if_neg (show ¬ (12 : Int32) = 10 by decide), if_neg (show ¬ (12 : Int32) = 11 by decide), if_pos rfl, hxq1 (by decide)]
theorem do12 (hi : i < 512) (hJ : nJ κ i c m) (a1 a2 a3 a4 a5 a6 : Int32) : dDo xs nx κ (zP12 κ a1 a2 a3) (zF12 a1 a2 a3) i c m a q J [some (vR 0 (some 0)), some (vI 12), some (vI a1), some (vI a2), some (vI a3), some (vI a4), some (vI a5), some (vI a6), none] :=
  dDo_of (by decide) (by decide) (op12 i hi a1 a2 a3) hJ (fun s => doR12 s)
theorem doR13 {a1 a2 a3 a4 a5 a6 : Int32} (s : nS) : R1 xs nx 1 0 [some (vR 0 (some 0)), some (vI 13), some (vI a1), some (vI a2), some (vI a3), some (vI a4), some (vI a5), some (vI a6), none] [] s = bI (R1 xs nx 102 0 [some (vR 0 (some 0)), some (vI a1), some (vI a2), some (vI a3), some (vI a4), none, none] [] s) (fun x s => some (.inl (some (vI x)), s)) (nHq [(0, -3000000), (1, -2000000), (2, -1000000)]) := by
  rw [e_1_0, if_neg (show ¬ (13 : Int32) = 0 by decide), if_neg (show ¬ (13 : Int32) = 1 by decide), if_neg (show ¬ (13 : Int32) = 2 by decide), if_neg (show ¬ (13 : Int32) = 3 by decide), if_neg (show ¬ (13 : Int32) = 4 by decide), if_neg (show ¬ (13 : Int32) = 5 by decide), if_neg (show ¬ (13 : Int32) = 6 by decide), if_neg (show ¬ (13 : Int32) = 7 by decide), if_neg (show ¬ (13 : Int32) = 8 by decide), if_neg (show ¬ (13 : Int32) = 9 by decide), if_neg (show ¬ (13 : Int32) = 10 by decide), if_neg (show ¬ (13 : Int32) = 11 by decide), if_neg (show ¬ (13 : Int32) = 12 by decide), if_pos rfl, hxq1 (by decide)]
theorem do13 (hi : i < 512) (hJ : nJ κ i c m) (a1 a2 a3 a4 a5 a6 : Int32) : dDo xs nx κ (zP13 κ a1 a2 a3 a4) (zF13 a1 a2 a3 a4) i c m a q J [some (vR 0 (some 0)), some (vI 13), some (vI a1), some (vI a2), some (vI a3), some (vI a4), some (vI a5), some (vI a6), none] :=
  dDo_of (by decide) (by decide) (op13 i hi a1 a2 a3 a4) hJ (fun s => doR13 s)
theorem doR14 {a1 a2 a3 a4 a5 a6 : Int32} (s : nS) : R1 xs nx 1 0 [some (vR 0 (some 0)), some (vI 14), some (vI a1), some (vI a2), some (vI a3), some (vI a4), some (vI a5), some (vI a6), none] [] s = bI (R1 xs nx 126 0 [some (vR 0 (some 0)), some (vI a1), none, none] [] s) (fun x s => some (.inl (some (vI x)), s)) (nHq [(0, -3000000), (1, -2000000), (2, -1000000)]) := by
  rw [e_1_0, if_neg (show ¬ (14 : Int32) = 0 by decide), if_neg (show ¬ (14 : Int32) = 1 by decide), if_neg (show ¬ (14 : Int32) = 2 by decide), if_neg (show ¬ (14 : Int32) = 3 by decide), if_neg (show ¬ (14 : Int32) = 4 by decide), if_neg (show ¬ (14 : Int32) = 5 by decide), if_neg (show ¬ (14 : Int32) = 6 by decide), if_neg (show ¬ (14 : Int32) = 7 by decide), if_neg (show ¬ (14 : Int32) = 8 by decide), if_neg (show ¬ (14 : Int32) = 9 by decide), if_neg (show ¬ (14 : Int32) = 10 by decide), if_neg (show ¬ (14 : Int32) = 11 by decide), if_neg (show ¬ (14 : Int32) = 12 by decide), if_neg (show ¬ (14 : Int32) = 13 by decide), if_pos rfl, hxq1 (by decide)]
theorem do14 (hi : i < 512) (hJ : nJ κ i c m) (a1 a2 a3 a4 a5 a6 : Int32) : dDo xs nx κ (P14 κ a1) (F14 a1) i c m a q J [some (vR 0 (some 0)), some (vI 14), some (vI a1), some (vI a2), some (vI a3), some (vI a4), some (vI a5), some (vI a6), none] :=
  dDo_of (by decide) (by decide) (op14 i hi a1) hJ (fun s => doR14 s)
theorem doR15 {a1 a2 a3 a4 a5 a6 : Int32} (hb : a2 = 0 ∨ a2 = 1) (s : nS) : R1 xs nx 1 0 [some (vR 0 (some 0)), some (vI 15), some (vI a1), some (vI a2), some (vI a3), some (vI a4), some (vI a5), some (vI a6), none] [] s = bI (R1 xs nx 128 0 [some (vR 0 (some 0)), some (vI a1), some (vI a2), none, none] [] s) (fun x s => some (.inl (some (vI x)), s)) (nHq [(0, -3000000), (1, -2000000), (2, -1000000)]) := by
  rw [e_1_0, if_neg (show ¬ (15 : Int32) = 0 by decide), if_neg (show ¬ (15 : Int32) = 1 by decide), if_neg (show ¬ (15 : Int32) = 2 by decide), if_neg (show ¬ (15 : Int32) = 3 by decide), if_neg (show ¬ (15 : Int32) = 4 by decide), if_neg (show ¬ (15 : Int32) = 5 by decide), if_neg (show ¬ (15 : Int32) = 6 by decide), if_neg (show ¬ (15 : Int32) = 7 by decide), if_neg (show ¬ (15 : Int32) = 8 by decide), if_neg (show ¬ (15 : Int32) = 9 by decide), if_neg (show ¬ (15 : Int32) = 10 by decide), if_neg (show ¬ (15 : Int32) = 11 by decide), if_neg (show ¬ (15 : Int32) = 12 by decide), if_neg (show ¬ (15 : Int32) = 13 by decide), if_neg (show ¬ (15 : Int32) = 14 by decide), if_pos rfl]
  rcases hb with rfl | rfl
  · rw [if_neg (by decide), d_1_312]
  · rw [if_pos rfl, d_1_312]
theorem do15 (hi : i < 512) (hJ : nJ κ i c m) (a1 a2 a3 a4 a5 a6 : Int32) (hb : a2 = 0 ∨ a2 = 1) : dDo xs nx κ (zP15 κ a1) (zF15 a1) i c m a q J [some (vR 0 (some 0)), some (vI 15), some (vI a1), some (vI a2), some (vI a3), some (vI a4), some (vI a5), some (vI a6), none] :=
  dDo_of (by decide) (by decide) (op15 i hi a1 a2 hb) hJ (fun s => doR15 hb s)
theorem doR16 {a1 a2 a3 a4 a5 a6 : Int32} (s : nS) : R1 xs nx 1 0 [some (vR 0 (some 0)), some (vI 16), some (vI a1), some (vI a2), some (vI a3), some (vI a4), some (vI a5), some (vI a6), none] [] s = bI (R1 xs nx 129 0 [some (vR 0 (some 0)), some (vI a1), none, none] [] s) (fun x s => some (.inl (some (vI x)), s)) (nHq [(0, -3000000), (1, -2000000), (2, -1000000)]) := by
  rw [e_1_0, if_neg (show ¬ (16 : Int32) = 0 by decide), if_neg (show ¬ (16 : Int32) = 1 by decide), if_neg (show ¬ (16 : Int32) = 2 by decide), if_neg (show ¬ (16 : Int32) = 3 by decide), if_neg (show ¬ (16 : Int32) = 4 by decide), if_neg (show ¬ (16 : Int32) = 5 by decide), if_neg (show ¬ (16 : Int32) = 6 by decide), if_neg (show ¬ (16 : Int32) = 7 by decide), if_neg (show ¬ (16 : Int32) = 8 by decide), if_neg (show ¬ (16 : Int32) = 9 by decide), if_neg (show ¬ (16 : Int32) = 10 by decide), if_neg (show ¬ (16 : Int32) = 11 by decide), if_neg (show ¬ (16 : Int32) = 12 by decide), if_neg (show ¬ (16 : Int32) = 13 by decide), if_neg (show ¬ (16 : Int32) = 14 by decide), if_neg (show ¬ (16 : Int32) = 15 by decide), if_pos rfl, hxq1 (by decide)]
theorem do16 (hi : i < 512) (hJ : nJ κ i c m) (a1 a2 a3 a4 a5 a6 : Int32) : dDo xs nx κ (zP16 κ a1) (zF16 a1) i c m a q J [some (vR 0 (some 0)), some (vI 16), some (vI a1), some (vI a2), some (vI a3), some (vI a4), some (vI a5), some (vI a6), none] :=
  dDo_of (by decide) (by decide) (op16 i hi a1) hJ (fun s => doR16 s)
theorem doR17 {a1 a2 a3 a4 a5 a6 : Int32} (s : nS) : R1 xs nx 1 0 [some (vR 0 (some 0)), some (vI 17), some (vI a1), some (vI a2), some (vI a3), some (vI a4), some (vI a5), some (vI a6), none] [] s = bI (R1 xs nx 131 0 [some (vR 0 (some 0)), some (vI a1), some (vI a2), none, none] [] s) (fun x s => some (.inl (some (vI x)), s)) (nHq [(0, -3000000), (1, -2000000), (2, -1000000)]) := by
  rw [e_1_0, if_neg (show ¬ (17 : Int32) = 0 by decide), if_neg (show ¬ (17 : Int32) = 1 by decide), if_neg (show ¬ (17 : Int32) = 2 by decide), if_neg (show ¬ (17 : Int32) = 3 by decide), if_neg (show ¬ (17 : Int32) = 4 by decide), if_neg (show ¬ (17 : Int32) = 5 by decide), if_neg (show ¬ (17 : Int32) = 6 by decide), if_neg (show ¬ (17 : Int32) = 7 by decide), if_neg (show ¬ (17 : Int32) = 8 by decide), if_neg (show ¬ (17 : Int32) = 9 by decide), if_neg (show ¬ (17 : Int32) = 10 by decide), if_neg (show ¬ (17 : Int32) = 11 by decide), if_neg (show ¬ (17 : Int32) = 12 by decide), if_neg (show ¬ (17 : Int32) = 13 by decide), if_neg (show ¬ (17 : Int32) = 14 by decide), if_neg (show ¬ (17 : Int32) = 15 by decide), if_neg (show ¬ (17 : Int32) = 16 by decide), if_pos rfl, hxq1 (by decide)]
theorem do17 (hi : i < 512) (hJ : nJ κ i c m) (a1 a2 a3 a4 a5 a6 : Int32) : dDo xs nx κ (zP17 κ a1 a2) (zF17 a1 a2) i c m a q J [some (vR 0 (some 0)), some (vI 17), some (vI a1), some (vI a2), some (vI a3), some (vI a4), some (vI a5), some (vI a6), none] :=
  dDo_of (by decide) (by decide) (op17 i hi a1 a2) hJ (fun s => doR17 s)
theorem doR18 {a1 a2 a3 a4 a5 a6 : Int32} (s : nS) : R1 xs nx 1 0 [some (vR 0 (some 0)), some (vI 18), some (vI a1), some (vI a2), some (vI a3), some (vI a4), some (vI a5), some (vI a6), none] [] s = bI (R1 xs nx 132 0 [some (vR 0 (some 0)), some (vI a1), none] [] s) (fun x s => some (.inl (some (vI x)), s)) (nHq [(0, -3000000), (1, -2000000), (2, -1000000)]) := by
  rw [e_1_0, if_neg (show ¬ (18 : Int32) = 0 by decide), if_neg (show ¬ (18 : Int32) = 1 by decide), if_neg (show ¬ (18 : Int32) = 2 by decide), if_neg (show ¬ (18 : Int32) = 3 by decide), if_neg (show ¬ (18 : Int32) = 4 by decide), if_neg (show ¬ (18 : Int32) = 5 by decide), if_neg (show ¬ (18 : Int32) = 6 by decide), if_neg (show ¬ (18 : Int32) = 7 by decide), if_neg (show ¬ (18 : Int32) = 8 by decide), if_neg (show ¬ (18 : Int32) = 9 by decide), if_neg (show ¬ (18 : Int32) = 10 by decide), if_neg (show ¬ (18 : Int32) = 11 by decide), if_neg (show ¬ (18 : Int32) = 12 by decide), if_neg (show ¬ (18 : Int32) = 13 by decide), if_neg (show ¬ (18 : Int32) = 14 by decide), if_neg (show ¬ (18 : Int32) = 15 by decide), if_neg (show ¬ (18 : Int32) = 16 by decide), if_neg (show ¬ (18 : Int32) = 17 by decide), if_pos rfl, hxq1 (by decide)]
theorem do18 (hi : i < 512) (hJ : nJ κ i c m) (a1 a2 a3 a4 a5 a6 : Int32) : dDo xs nx κ (zP18 κ a1) (zF18 a1) i c m a q J [some (vR 0 (some 0)), some (vI 18), some (vI a1), some (vI a2), some (vI a3), some (vI a4), some (vI a5), some (vI a6), none] :=
  dDo_of (by decide) (by decide) (op18 i hi a1) hJ (fun s => doR18 s)
theorem doR19 {a1 a2 a3 a4 a5 a6 : Int32} (s : nS) : R1 xs nx 1 0 [some (vR 0 (some 0)), some (vI 19), some (vI a1), some (vI a2), some (vI a3), some (vI a4), some (vI a5), some (vI a6), none] [] s = bI (R1 xs nx 133 0 [some (vR 0 (some 0)), some (vI a1), none, none] [] s) (fun x s => some (.inl (some (vI x)), s)) (nHq [(0, -3000000), (1, -2000000), (2, -1000000)]) := by
  rw [e_1_0, if_neg (show ¬ (19 : Int32) = 0 by decide), if_neg (show ¬ (19 : Int32) = 1 by decide), if_neg (show ¬ (19 : Int32) = 2 by decide), if_neg (show ¬ (19 : Int32) = 3 by decide), if_neg (show ¬ (19 : Int32) = 4 by decide), if_neg (show ¬ (19 : Int32) = 5 by decide), if_neg (show ¬ (19 : Int32) = 6 by decide), if_neg (show ¬ (19 : Int32) = 7 by decide), if_neg (show ¬ (19 : Int32) = 8 by decide), if_neg (show ¬ (19 : Int32) = 9 by decide), if_neg (show ¬ (19 : Int32) = 10 by decide), if_neg (show ¬ (19 : Int32) = 11 by decide), if_neg (show ¬ (19 : Int32) = 12 by decide), if_neg (show ¬ (19 : Int32) = 13 by decide), if_neg (show ¬ (19 : Int32) = 14 by decide), if_neg (show ¬ (19 : Int32) = 15 by decide), if_neg (show ¬ (19 : Int32) = 16 by decide), if_neg (show ¬ (19 : Int32) = 17 by decide), if_neg (show ¬ (19 : Int32) = 18 by decide), if_pos rfl, hxq1 (by decide)]
theorem do19 (hi : i < 512) (hJ : nJ κ i c m) (a1 a2 a3 a4 a5 a6 : Int32) : dDo xs nx κ (zP19 κ a1) (zF19 a1) i c m a q J [some (vR 0 (some 0)), some (vI 19), some (vI a1), some (vI a2), some (vI a3), some (vI a4), some (vI a5), some (vI a6), none] :=
  dDo_of (by decide) (by decide) (op19 i hi a1) hJ (fun s => doR19 s)
theorem doR20 {a1 a2 a3 a4 a5 a6 : Int32} (s : nS) : R1 xs nx 1 0 [some (vR 0 (some 0)), some (vI 20), some (vI a1), some (vI a2), some (vI a3), some (vI a4), some (vI a5), some (vI a6), none] [] s = bI (R1 xs nx 134 0 [some (vR 0 (some 0)), some (vI a1), some (vI a2), none, none, none] [] s) (fun x s => some (.inl (some (vI x)), s)) (nHq [(0, -3000000), (1, -2000000), (2, -1000000)]) := by
  rw [e_1_0, if_neg (show ¬ (20 : Int32) = 0 by decide), if_neg (show ¬ (20 : Int32) = 1 by decide), if_neg (show ¬ (20 : Int32) = 2 by decide), if_neg (show ¬ (20 : Int32) = 3 by decide), if_neg (show ¬ (20 : Int32) = 4 by decide), if_neg (show ¬ (20 : Int32) = 5 by decide), if_neg (show ¬ (20 : Int32) = 6 by decide), if_neg (show ¬ (20 : Int32) = 7 by decide), if_neg (show ¬ (20 : Int32) = 8 by decide), if_neg (show ¬ (20 : Int32) = 9 by decide), if_neg (show ¬ (20 : Int32) = 10 by decide), if_neg (show ¬ (20 : Int32) = 11 by decide), if_neg (show ¬ (20 : Int32) = 12 by decide), if_neg (show ¬ (20 : Int32) = 13 by decide), if_neg (show ¬ (20 : Int32) = 14 by decide), if_neg (show ¬ (20 : Int32) = 15 by decide), if_neg (show ¬ (20 : Int32) = 16 by decide), if_neg (show ¬ (20 : Int32) = 17 by decide), if_neg (show ¬ (20 : Int32) = 18 by decide), if_neg (show ¬ (20 : Int32) = 19 by decide), if_pos rfl, hxq1 (by decide)]
theorem do20 (hi : i < 512) (hJ : nJ κ i c m) (a1 a2 a3 a4 a5 a6 : Int32) : dDo xs nx κ (zP20 κ a1 a2) (zF20 a1 a2) i c m a q J [some (vR 0 (some 0)), some (vI 20), some (vI a1), some (vI a2), some (vI a3), some (vI a4), some (vI a5), some (vI a6), none] :=
  dDo_of (by decide) (by decide) (op20 i hi a1 a2) hJ (fun s => doR20 s)
theorem doR21 {a1 a2 a3 a4 a5 a6 : Int32} (s : nS) : R1 xs nx 1 0 [some (vR 0 (some 0)), some (vI 21), some (vI a1), some (vI a2), some (vI a3), some (vI a4), some (vI a5), some (vI a6), none] [] s = bI (R1 xs nx 137 0 [some (vR 0 (some 0)), some (vI a1), some (vI a2), none, none] [] s) (fun x s => some (.inl (some (vI x)), s)) (nHq [(0, -3000000), (1, -2000000), (2, -1000000)]) := by
  rw [e_1_0, if_neg (show ¬ (21 : Int32) = 0 by decide), if_neg (show ¬ (21 : Int32) = 1 by decide), if_neg (show ¬ (21 : Int32) = 2 by decide), if_neg (show ¬ (21 : Int32) = 3 by decide), if_neg (show ¬ (21 : Int32) = 4 by decide), if_neg (show ¬ (21 : Int32) = 5 by decide), if_neg (show ¬ (21 : Int32) = 6 by decide), if_neg (show ¬ (21 : Int32) = 7 by decide), if_neg (show ¬ (21 : Int32) = 8 by decide), if_neg (show ¬ (21 : Int32) = 9 by decide), if_neg (show ¬ (21 : Int32) = 10 by decide), if_neg (show ¬ (21 : Int32) = 11 by decide), if_neg (show ¬ (21 : Int32) = 12 by decide), if_neg (show ¬ (21 : Int32) = 13 by decide), if_neg (show ¬ (21 : Int32) = 14 by decide), if_neg (show ¬ (21 : Int32) = 15 by decide), if_neg (show ¬ (21 : Int32) = 16 by decide), if_neg (show ¬ (21 : Int32) = 17 by decide), if_neg (show ¬ (21 : Int32) = 18 by decide), if_neg (show ¬ (21 : Int32) = 19 by decide), if_neg (show ¬ (21 : Int32) = 20 by decide), if_pos rfl, hxq1 (by decide)]
theorem do21 (hi : i < 512) (hJ : nJ κ i c m) (a1 a2 a3 a4 a5 a6 : Int32) : dDo xs nx κ (zP21 κ a1 a2) (zF21 a1 a2) i c m a q J [some (vR 0 (some 0)), some (vI 21), some (vI a1), some (vI a2), some (vI a3), some (vI a4), some (vI a5), some (vI a6), none] :=
  dDo_of (by decide) (by decide) (op21 i hi a1 a2) hJ (fun s => doR21 s)
theorem doR22 {a1 a2 a3 a4 a5 a6 : Int32} (hb : a3 = 0 ∨ a3 = 1) (s : nS) : R1 xs nx 1 0 [some (vR 0 (some 0)), some (vI 22), some (vI a1), some (vI a2), some (vI a3), some (vI a4), some (vI a5), some (vI a6), none] [] s = bI (R1 xs nx 140 0 [some (vR 0 (some 0)), some (vI a1), some (vI a2), some (vI a3), none, none] [] s) (fun x s => some (.inl (some (vI x)), s)) (nHq [(0, -3000000), (1, -2000000), (2, -1000000)]) := by
  rw [e_1_0, if_neg (show ¬ (22 : Int32) = 0 by decide), if_neg (show ¬ (22 : Int32) = 1 by decide), if_neg (show ¬ (22 : Int32) = 2 by decide), if_neg (show ¬ (22 : Int32) = 3 by decide), if_neg (show ¬ (22 : Int32) = 4 by decide), if_neg (show ¬ (22 : Int32) = 5 by decide), if_neg (show ¬ (22 : Int32) = 6 by decide), if_neg (show ¬ (22 : Int32) = 7 by decide), if_neg (show ¬ (22 : Int32) = 8 by decide), if_neg (show ¬ (22 : Int32) = 9 by decide), if_neg (show ¬ (22 : Int32) = 10 by decide), if_neg (show ¬ (22 : Int32) = 11 by decide), if_neg (show ¬ (22 : Int32) = 12 by decide), if_neg (show ¬ (22 : Int32) = 13 by decide), if_neg (show ¬ (22 : Int32) = 14 by decide), if_neg (show ¬ (22 : Int32) = 15 by decide), if_neg (show ¬ (22 : Int32) = 16 by decide), if_neg (show ¬ (22 : Int32) = 17 by decide), if_neg (show ¬ (22 : Int32) = 18 by decide), if_neg (show ¬ (22 : Int32) = 19 by decide), if_neg (show ¬ (22 : Int32) = 20 by decide), if_neg (show ¬ (22 : Int32) = 21 by decide), if_pos rfl]
  rcases hb with rfl | rfl
  · rw [if_neg (by decide), d_1_425]
  · rw [if_pos rfl, d_1_425]
theorem do22 (hi : i < 512) (hJ : nJ κ i c m) (a1 a2 a3 a4 a5 a6 : Int32) (hb : a3 = 0 ∨ a3 = 1) : dDo xs nx κ (zP22 κ a1 a2) (zF22 a1 a2) i c m a q J [some (vR 0 (some 0)), some (vI 22), some (vI a1), some (vI a2), some (vI a3), some (vI a4), some (vI a5), some (vI a6), none] :=
  dDo_of (by decide) (by decide) (op22 i hi a1 a2 a3 hb) hJ (fun s => doR22 hb s)
theorem doR23 {a1 a2 a3 a4 a5 a6 : Int32} (s : nS) : R1 xs nx 1 0 [some (vR 0 (some 0)), some (vI 23), some (vI a1), some (vI a2), some (vI a3), some (vI a4), some (vI a5), some (vI a6), none] [] s = bI (R1 xs nx 142 0 [some (vR 0 (some 0)), some (vI a1), some (vI a2), none, none, none, none, none, none] [] s) (fun x s => some (.inl (some (vI x)), s)) (nHq [(0, -3000000), (1, -2000000), (2, -1000000)]) := by
  rw [e_1_0, if_neg (show ¬ (23 : Int32) = 0 by decide), if_neg (show ¬ (23 : Int32) = 1 by decide), if_neg (show ¬ (23 : Int32) = 2 by decide), if_neg (show ¬ (23 : Int32) = 3 by decide), if_neg (show ¬ (23 : Int32) = 4 by decide), if_neg (show ¬ (23 : Int32) = 5 by decide), if_neg (show ¬ (23 : Int32) = 6 by decide), if_neg (show ¬ (23 : Int32) = 7 by decide), if_neg (show ¬ (23 : Int32) = 8 by decide), if_neg (show ¬ (23 : Int32) = 9 by decide), if_neg (show ¬ (23 : Int32) = 10 by decide), if_neg (show ¬ (23 : Int32) = 11 by decide), if_neg (show ¬ (23 : Int32) = 12 by decide), if_neg (show ¬ (23 : Int32) = 13 by decide), if_neg (show ¬ (23 : Int32) = 14 by decide), if_neg (show ¬ (23 : Int32) = 15 by decide), if_neg (show ¬ (23 : Int32) = 16 by decide), if_neg (show ¬ (23 : Int32) = 17 by decide), if_neg (show ¬ (23 : Int32) = 18 by decide), if_neg (show ¬ (23 : Int32) = 19 by decide), if_neg (show ¬ (23 : Int32) = 20 by decide), if_neg (show ¬ (23 : Int32) = 21 by decide), if_neg (show ¬ (23 : Int32) = 22 by decide), hxq1 (by decide)]
theorem do23 (hi : i < 512) (hJ : nJ κ i c m) (a1 a2 a3 a4 a5 a6 : Int32) : dDo xs nx κ (zP23 κ a1 a2) (zF23 a1 a2) i c m a q J [some (vR 0 (some 0)), some (vI 23), some (vI a1), some (vI a2), some (vI a3), some (vI a4), some (vI a5), some (vI a6), none] :=
  dDo_of (by decide) (by decide) (op23 i hi a1 a2) hJ (fun s => doR23 s)
end DDO
