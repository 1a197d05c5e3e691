/-! ===== lose, resolve, duty, forward, giveBack ===== -/
section KAP
variable {κ : kP}
section OPS
variable {xs : Nat → Int32} {nx : Nat}
theorem nz_some {β : Type} {x : Nat} {a b : Option β} : nz (some x) a b = b := rfl
theorem nz_none {β : Type} {a b : Option β} : nz none a b = a := rfl
theorem fI_k {t k j j' : Nat} {x : Int32} {c : nC} : fI (uI t k j x c) t k j' = if j' = j then x else fI c t k j' := by
  rw [fI_at]; simp only [true_and]
theorem fX_k {t k j j' x : Nat} {c : nC} : fX (uX t k j x c) t k j' = if j' = j then x else fX c t k j' := by
  rw [fX_at]; simp only [true_and]
theorem fP_k {t k j j' : Nat} {x : Option Nat} {c : nC} : fP (uP t k j x c) t k j' = if j' = j then x else fP c t k j' := by
  rw [fP_at]; simp only [true_and]
theorem fI_n {t t' k k' j j' : Nat} {x : Int32} {c : nC} (h : k' ≠ k) : fI (uI t k j x c) t' k' j' = fI c t' k' j' := by
  by_cases e : t' = t
  · subst e; rw [fI_at, if_neg (fun z => h z.1)]
  · rw [fI_ne e]
theorem fX_n {t t' k k' j j' x : Nat} {c : nC} (h : k' ≠ k) : fX (uX t k j x c) t' k' j' = fX c t' k' j' := by
  by_cases e : t' = t
  · subst e; rw [fX_at, if_neg (fun z => h z.1)]
  · rw [fX_ne e]
theorem fP_n {t t' k k' j j' : Nat} {x : Option Nat} {c : nC} (h : k' ≠ k) : fP (uP t k j x c) t' k' j' = fP c t' k' j' := by
  by_cases e : t' = t
  · subst e; rw [fP_at, if_neg (fun z => h z.1)]
  · rw [fP_ne e]
theorem nDoneU {κ' : kP} {P : nC → nM → kP → nC → nM → Int32 → Prop} {F : nC → nM → Nat → Prop} {i : Nat} {hs : List (Nat × Int32)} {c m : nS → Option nOut} {s : nS} {v : Int32} {c' : nC} {m' : nM} (hJ : nJ κ' (i + 1) c' m') (hc : c s = some (.inl (some (vI v)), (c', s.2))) (hm : ∀ z, m (c', s.2.1, z) = some (.inl (some (vI v)), (c', m', z))) (he : m' 1 76 = 0) (hP : P s.1 s.2.1 κ' c' m' v := by trivial) :
    ∃ (κ' : kP) (c' : nC) (m' : nM) (v : Int32), nJ κ' (i + 1) c' m' ∧ (∀ z, m (c', s.2.1, z) = some (.inl (some (vI v)), (c', m', z))) ∧
  ((c s = some (.inl (some (vI v)), (c', s.2)) ∧ m' 1 76 = 0 ∧ P s.1 s.2.1 κ' c' m' v) ∨ ∃ E, c s = some (.inr E, (c', s.2.1, s.2.2.1 + 1, s.2.2.2)) ∧ nHl hs E = some (m' 1 76) ∧ m' 1 76 ≠ 0 ∧ c' = s.1 ∧ κ' = κ ∧ F s.1 s.2.1 E) :=
  ⟨κ', c', m', v, hJ, hm, Or.inl ⟨hc, he, hP⟩⟩
theorem kind8 {i : Nat} {c : nC} {m : nM} (hJ : nJ κ i c m) {k : Nat} (hk : k < fN c 26) : fI c 9 k 0 = m 66 k ∧ ∃ n, n ≤ 8 ∧ m 66 k = iN n := by
  obtain ⟨y1, -, -, -, y⟩ := hJ.2.2.2.2.2.2.2.1 k hk
  refine ⟨y1, ?_⟩
  rcases y with ⟨z, -⟩ | ⟨z, -⟩ | ⟨z, -⟩ | ⟨z, -⟩ | ⟨z, -⟩ | ⟨z, -⟩ | ⟨z, -⟩ | ⟨z, -⟩ | ⟨z, -⟩
  · exact ⟨0, by omega, z⟩
  · exact ⟨1, by omega, z⟩
  · exact ⟨2, by omega, z⟩
  · exact ⟨3, by omega, z⟩
  · exact ⟨4, by omega, z⟩
  · exact ⟨5, by omega, z⟩
  · exact ⟨6, by omega, z⟩
  · exact ⟨7, by omega, z⟩
  · exact ⟨8, by omega, z⟩
theorem k40 {i : Nat} {c : nC} {m : nM} (hJ : nJ κ i c m) {k : Nat} (hk : k < fN c 26) : k < 40 := by
  have := hJ.1.2.2.1.1
  omega
/-- at its end -/
theorem over65 {i : Nat} {c : nC} {m : nM} (hJ : nJ κ i c m) {k : Nat} (hk : k < fN c 26) :
    (m 66 k ≠ 7 ∧ m 66 k ≠ 8 ∧ (∀ s : nS, s.1 = c → R1 xs nx 65 0 [some (vR 26 (some k))] [] s = some (.inl (some (vI 0)), s)) ∧ ∀ s : nS, s.2.1 66 = m 66 → R1 xs nx 224 0 [some (vR 1 (some 0)), some (vI (iN k))] [] s = some (.inl (some (vI 0)), s)) ∨
    ((m 66 k = 7 ∨ m 66 k = 8) ∧ (∀ s : nS, s.1 = c → R1 xs nx 65 0 [some (vR 26 (some k))] [] s = some (.inl (some (vI 1)), s)) ∧ ∀ s : nS, s.2.1 66 = m 66 → R1 xs nx 224 0 [some (vR 1 (some 0)), some (vI (iN k))] [] s = some (.inl (some (vI 1)), s)) := by
  obtain ⟨e, n, hn, h⟩ := kind8 hJ hk
  have h40 := k40 hJ hk
  by_cases h7 : m 66 k = 7
  · refine Or.inr ⟨Or.inl h7, fun s hs => ?_, fun s hs => ?_⟩
    · rw [d_65_0, hs, e, if_pos h7]
    · rw [d_224_0, if_pos (iN_in40 h40), i32_nat (by omega), hs, h7, if_neg (by decide)]
  · by_cases h8 : m 66 k = 8
    · refine Or.inr ⟨Or.inr h8, fun s hs => ?_, fun s hs => ?_⟩
      · rw [d_65_0, hs, e, if_neg h7, if_pos h8]
      · rw [d_224_0, if_pos (iN_in40 h40), i32_nat (by omega), hs, h8, if_neg (by decide)]
    · refine Or.inl ⟨h7, h8, fun s hs => ?_, fun s hs => ?_⟩
      · rw [d_65_0, hs, e, if_neg h7, if_neg h8]
      · have : n < 7 := by
          rcases Nat.lt_or_ge n 7 with z | z
          · exact z
          · exfalso
            by_cases e7 : n = 7
            · exact h7 (by rw [h, e7]; rfl)
            · exact h8 (by rw [h, show n = 8 by omega]; rfl)
        rw [d_224_0, if_pos (iN_in40 h40), i32_nat (by omega), hs, h, if_pos (show iN n < (7 : Int32) from (iN_lt (b := 7) (by omega) (by omega)).mpr this)]
/-- a parcel's own fields change -/
theorem nJ_par {i k : Nat} {c c' : nC} {m m' : nM} (hJ : nJ κ i c m)
    (cI : ∀ t, t ≠ 26 → t ≠ 8 → fI c' t = fI c t) (cX : ∀ t, t ≠ 26 → fX c' t = fX c t) (cP : ∀ t, t ≠ 26 → fP c' t = fP c t) (c2 : c'.2.2.2 = c.2.2.2)
    (cIk : ∀ t k' j, k' ≠ k → fI c' t k' j = fI c t k' j) (cXk : ∀ t k' j, k' ≠ k → fX c' t k' j = fX c t k' j) (cPk : ∀ t k' j, k' ≠ k → fP c' t k' j = fP c t k' j)
    (mt : ∀ t, (t < 49 ∨ (65 < t ∧ t ≠ 76 ∧ t ≠ 77)) → m' t = m t) (mk : ∀ t k', k' ≠ k → m' t k' = m t k') (hk : k < fN c 26)
    (hP : nPar (fI c' 26 k) (fI c' 8 k) (fX c' 26 k) (fP c' 26 k) (fN c 24) (m 1 0) (m' 49) (m' 50) (m' 51) (m' 52) (m' 53) (m' 54) (m' 55) (m' 56) (m' 57) (m' 58) (m' 59) (m' 60) (m' 61) (m' 62) (m' 63) (m' 64) (m' 65) (m' 76) k)
    (hM : nMon (fI c' 8 k) (fP c 8 k 5) (fN c 27) (i / 100000) (m' 56) (m' 62) (m 66) (m' 77) (m 78) k)
    (hV : (m' 63 k = m 63 k ∧ m' 56 k = m 56 k) ∨ (m 66 k ≠ 4 ∧ m 66 k ≠ 7)) (hT : (m' 51 k = m 51 k ∧ m' 52 k = m 52 k ∧ m' 60 k = m 60 k ∧ m' 63 k = m 63 k) ∨ (m 66 k ≠ 3 ∧ m 66 k ≠ 4))
    (hU : (m' 49 k = m 49 k ∧ m' 50 k = m 50 k) ∨ gUni (fN c 26) (m' 49) (m' 50) := by left; constructor <;> first | rfl | (simp (disch := decide) only [uM_ne])) : nJ κ i c' m' := by
  have e3 : fQ c' = fQ c := congrArg (·.1) c2
  have e4 : fL c' = fL c := congrArg (·.2.1) c2
  have e5 : fN c' = fN c := congrArg (·.2.2) c2
  have g8 : ∀ x, x ≠ k → fI c' 8 x = fI c 8 x := fun x h => funext fun j => cIk 8 x j h
  have gf : ∀ x, x ≠ k → fI c' 26 x = fI c 26 x := fun x h => funext fun j => cIk 26 x j h
  have gx : ∀ x, x ≠ k → fX c' 26 x = fX c 26 x := fun x h => funext fun j => cXk 26 x j h
  have gp : ∀ x, x ≠ k → fP c' 26 x = fP c 26 x := fun x h => funext fun j => cPk 26 x j h
  unfold nJ at hJ ⊢
  obtain ⟨j1, j2, j3, j4, j5, j6, j7, j8, j9, j10, j11, j12, j13, j14, j15⟩ := hJ
  simp (disch := decide) only [cI, cX, cP, e3, e4, e5, mt]
  have hT' : gTgt (fN c 26) (m 45) (m' 51) (m' 52) (m' 60) (m' 63) (m 66) (m 67) (m 79) := by
    intro x hx
    have := j9.2 x hx
    by_cases e : x = k
    · subst e
      rcases hT with ⟨a1, a2, a3, a4⟩ | ⟨b1, b2⟩
      · unfold nTgt at this ⊢
        rw [a1, a2, a3, a4]
        exact this
      · exact ⟨fun z => absurd z b1, fun z => absurd z b2⟩
    · unfold nTgt at this ⊢
      rw [mk 51 x e, mk 52 x e, mk 60 x e, mk 63 x e]
      exact this
  refine ⟨j1, j2, j3, j4, j5, fun x hx => ?_, fun x hx hx4 => ?_, j8, ⟨j9.1, hT'⟩, j10, fun x hx => ?_, ?_, j13, j14, j15.1, j15.2.1, j15.2.2.1, ?_, j15.2.2.2.2⟩
  · by_cases e : x = k
    · subst e; exact hP
    · have := j6 x hx
      rw [gf x e, g8 x e, gx x e, gp x e]
      unfold nPar at this ⊢
      simp only [mk _ x e]
      exact this
  · have := j7 x hx hx4
    have e : x ≠ k := by omega
    simp only [mk _ x e]
    exact this
  · by_cases e : x = k
    · subst e; exact hM
    · have := j11 x hx
      rw [g8 x e]
      unfold nMon at this ⊢
      simp only [mk _ x e]
      exact this
  · obtain ⟨v1, v2, v3⟩ := j12
    refine ⟨fun v hv => ?_, v2, v3⟩
    obtain ⟨y1, y2, y3, y4, y5⟩ := v1 v hv
    refine ⟨y1, y2, y3, fun hp => ?_, y5⟩
    obtain ⟨r1, r2, r3, r4, r5, r6⟩ := y4 hp
    refine ⟨r1, r2, r3, r4, r5, fun j x hjx => ?_⟩
    have := r6 j x hjx
    by_cases e : x = k
    · subst e
      rcases hV with ⟨h1, h2⟩ | ⟨h1, h2⟩
      · rw [h1, h2]; exact this
      · rcases this.2.2.2.2 with z | z
        · exact absurd z.1 h1
        · exact absurd z.1 h2
    · rw [mk 63 x e, mk 56 x e]; exact this
  · rcases hU with ⟨h1, h2⟩ | h
    · have a1 : m' 49 = m 49 := funext fun x => by
        by_cases e : x = k
        · rw [e, h1]
        · exact mk 49 x e
      have a2 : m' 50 = m 50 := funext fun x => by
        by_cases e : x = k
        · rw [e, h2]
        · exact mk 50 x e
      rw [a1, a2]
      exact j15.2.2.2.1
    · exact h
/-- an account changes -/
theorem nJ_acct {i u : Nat} {x : Int32} {c : nC} {m : nM} (hJ : nJ κ i c m) : nJ κ i (uI 22 u 1 x c) (uM 90 u x m) := by
  unfold nJ at hJ ⊢
  simp (disch := decide) only [uM_ne, fI_ne, fX_uI, fP_uI, fQ_uI, fL_uI, fN_uI]
  obtain ⟨j1, j2, j3, j4, j5, j6, j7, j8, j9, j10, j11, j12, j13, j14, j15⟩ := hJ
  refine ⟨j1, j2, j3, j4, j5, j6, j7, j8, j9, j10, j11, j12, j13, j14, fun v hv => ?_, j15.2⟩
  rw [fI_at, uM_at]
  simp only [and_true]
  by_cases e : v = u
  · rw [if_pos e, if_pos e]
  · rw [if_neg e, if_neg e]; exact j15.1 v hv
theorem r191 {k : Nat} {a : Int32} {s : nS} (hk : k < 40) : R1 xs nx 191 0 [some (vR 1 (some 0)), some (vI (iN k)), some (vI a)] [] s = some (.inl none, (s.1, mMv k 0 a s.2.1, s.2.2)) := by
  rw [d_191_0, r190 hk]
  rfl
theorem r94 {i k d : Nat} {c : nC} {m : nM} (hJ : nJ κ i c m) (hk : k < fN c 26) (hd : d < 5) {z : nM × Nat × (Nat → Int64)} : R1 xs nx 94 0 [some (vR 0 (some 0)), some (vR 26 (some k)), some (vR 21 (some d))] [] (c, z) = some (.inl none, (cMv k 0 (iN d) (some d) (some (3, d)) (m 1 0) c, z)) := by
  rw [d_94_0]
  show bV (R1 xs nx 57 0 [some (vR 26 (some k)), some (vI (0 : Int32)), some (vI (iN d)), some (vR 21 (some d)), some (vL (some (3, d))), some (vI (fI c 0 0 9)), none, none] [] (c, z)) _ _ = _
  rw [mvR hJ hk (Or.inr (Or.inl ⟨d, hd, rfl⟩)), (nJ_ck hJ).1]
  rfl
theorem r127 {i k d : Nat} {c : nC} {m : nM} (hJ : nJ κ i c m) (hk : k < fN c 26) (hd : d < 5) (h3 : fP c 9 k 3 = some d) {z : nM × Nat × (Nat → Int64)} : R1 xs nx 127 0 [some (vR 0 (some 0)), some (vR 26 (some k)), none] [] (c, z) = some (.inl none, (cMv k 0 (iN d) (some d) (some (3, d)) (m 1 0) c, z)) := by
  rw [d_127_0]
  show nz (fP c 9 k 3) _ _ = _
  rw [h3, nz_some, r94 hJ hk hd]
  rfl
/-- a parcel's depot and number, where it stands at a depot -/
theorem sty6 {i : Nat} {c : nC} {m : nM} (hJ : nJ κ i c m) {k : Nat} (hk : k < fN c 26) (h : m 66 k = 6) : ∃ d, d < 5 ∧ m 67 k = iN d ∧ fP c 9 k 3 = some d ∧ fI c 9 k 8 = m 73 k ∧ nBo (m 73 k) := by
  obtain ⟨-, -, -, -, y⟩ := hJ.2.2.2.2.2.2.2.1 k hk
  rw [h] at y
  rcases y with ⟨z, -⟩ | ⟨z, -⟩ | ⟨z, -⟩ | ⟨z, -⟩ | ⟨z, -⟩ | ⟨z, -⟩ | ⟨z, d, z1, z2, z3, z4, z5, z6, z7, z8, z9⟩ | ⟨z, -⟩ | ⟨z, -⟩
  · exact absurd z (by decide)
  · exact absurd z (by decide)
  · exact absurd z (by decide)
  · exact absurd z (by decide)
  · exact absurd z (by decide)
  · exact absurd z (by decide)
  · exact ⟨d, z1, z2, z3, z8, z8 ▸ z9⟩
  · exact absurd z (by decide)
  · exact absurd z (by decide)
theorem sty3 {i : Nat} {c : nC} {m : nM} (hJ : nJ κ i c m) {k : Nat} (hk : k < fN c 26) (h : m 66 k = 3) : ∃ d, d < 5 ∧ m 67 k = iN d ∧ fP c 9 k 3 = some d := by
  obtain ⟨-, -, -, -, y⟩ := hJ.2.2.2.2.2.2.2.1 k hk
  rw [h] at y
  rcases y with ⟨z, -⟩ | ⟨z, -⟩ | ⟨z, -⟩ | ⟨z, d, z1, z2, z3, -⟩ | ⟨z, -⟩ | ⟨z, -⟩ | ⟨z, -⟩ | ⟨z, -⟩ | ⟨z, -⟩
  · exact absurd z (by decide)
  · exact absurd z (by decide)
  · exact absurd z (by decide)
  · exact ⟨d, z1, z2, z3⟩
  · exact absurd z (by decide)
  · exact absurd z (by decide)
  · exact absurd z (by decide)
  · exact absurd z (by decide)
  · exact absurd z (by decide)
theorem sty1 {i : Nat} {c : nC} {m : nM} (hJ : nJ κ i c m) {k : Nat} (hk : k < fN c 26) (h : m 66 k = 1) : ∃ l, l < fN c 23 ∧ m 67 k = iN l ∧ fP c 9 k 3 = some (fX c 23 l 1) := by
  obtain ⟨-, -, -, -, y⟩ := hJ.2.2.2.2.2.2.2.1 k hk
  rw [h] at y
  rcases y with ⟨z, -⟩ | ⟨z, d, z1, z2, z3, -⟩ | ⟨z, -⟩ | ⟨z, -⟩ | ⟨z, -⟩ | ⟨z, -⟩ | ⟨z, -⟩ | ⟨z, -⟩ | ⟨z, -⟩
  · exact absurd z (by decide)
  · exact ⟨d, z1, z2, z3⟩
  · exact absurd z (by decide)
  · exact absurd z (by decide)
  · exact absurd z (by decide)
  · exact absurd z (by decide)
  · exact absurd z (by decide)
  · exact absurd z (by decide)
  · exact absurd z (by decide)
theorem c84_2 (s : nS) : R1 xs nx 84 0 [some (vI 0)] [] s = some (.inr 2, (s.1, s.2.1, s.2.2.1 + 1, s.2.2.2)) := c84_0 s
/-- lose -/
abbrev zP19 (κ : kP) (a1 : Int32) (c : nC) (m : nM) (κ' : kP) (c' : nC) (m' : nM) (v : Int32) : Prop := (∃ k, k < fN c 26 ∧ a1 = iN k ∧ m 66 k ≠ 4 ∧ m 66 k ≠ 7 ∧ m 66 k ≠ 8 ∧ v = m 66 k ∧ m' 66 k = 8) ∧ κ' = κ ∧ m' 1 0 = m 1 0
abbrev zF19 (a1 : Int32) (c : nC) (m : nM) (E : Nat) : Prop := f3 (¬ (∃ k, k < fN c 26 ∧ a1 = iN k)) False (∃ k, k < fN c 26 ∧ a1 = iN k ∧ (m 66 k = 4 ∨ m 66 k = 7 ∨ m 66 k = 8)) E
theorem op19 : ∀ i, i < 512 → ∀ (a1 : Int32), nDoes κ (zP19 κ a1) (zF19 a1) i [(0, 1), (2, 2)] (fun s => R1 xs nx 133 0 [some (vR 0 (some 0)), some (vI a1), none, none] [] s) (fun s => R1 xs nx 231 0 [some (vR 1 (some 0)), some (vI a1), none, none] [] s) := by
  intro i hi a1 s hJ
  rcases idx97 (xs := xs) (nx := nx) hJ a1 with ⟨h1, h2⟩ | ⟨k, hk, ea, hin, en, h1, h2⟩
  · exact nFail (hF := nd97 hJ rfl (h1 s rfl)) (E := 0) (e := 1) (v := 0) hJ (by simp only [d_133_0, h1 s rfl, bR, hE]) (fun z => by simp only [d_231_0, h2 (s.1, s.2.1, z) rfl, bI, if_true, d_231_38, r172_1, n10, if_false]) rfl n10
  · obtain ⟨e0, -⟩ := kind8 hJ hk
    have h40 := k40 hJ hk
    subst ea
    by_cases h4 : s.2.1 66 k = 4
    · exact nFail (hF := ⟨k, hk, rfl, Or.inl h4⟩) (E := 2) (e := 2) (v := 0) hJ (by simp only [d_133_0, h1 s rfl, bR, ntg_self, nn_some, e0, h4, if_true, d_133_28, d_133_29, c84_0, bV, hE]) (fun z => by simp only [d_231_0, h2 (s.1, s.2.1, z) rfl, bI, n10, if_false, hin, en, h4, if_true, d_231_33, d_231_38, r172_2]) rfl n20
    · rcases over65 (xs := xs) (nx := nx) hJ hk with ⟨h7, h8, o1, o2⟩ | ⟨h78, o1, o2⟩
      · have hJ' := nJ_76 (x := 0) hJ
        have hp := put8 hJ' (by omega) hk (by rw [uM_ne (by decide)]; exact h4) (by rw [uM_ne (by decide)]; exact h7)
        have hr := mvR (xs := xs) (nx := nx) hJ hk (w := 8) (a := -1) (ck := fI s.1 0 0 9) (D := none) (q := none) (z := s.2) (Or.inl rfl)
        rw [uM1_ne (by decide)] at hp
        refine nDoneU (hP := ⟨⟨k, hk, rfl, h4, h7, h8, rfl, by rw [uM_ne (by decide), mMv_66]⟩, rfl, by simp (disch := decide) only [uM_ne, uM1_ne, mMv_1]⟩) (v := s.2.1 66 k) hp ?_ (fun z => ?_) ?_
        · simp only [d_133_0, h1 s rfl, bR, ntg_self, nn_some, e0, h4, if_false, o1 s rfl, bI, if_true, d_133_29, c84_1, bV]
          rw [show ((s.1, s.2) : nS) = s from rfl] at hr
          rw [hr, (nJ_ck hJ).1]
        · simp only [d_231_0, h2 (_, s.2.1, z) rfl, bI, n10, if_false, hin, en, h4, o2 (_, s.2.1, z) rfl, if_true, d_231_38, r172_0, r190 h40, bV]
          rw [mMv_1 (by decide), uM1_ne (by decide), uM_ne (by decide)]
        · rw [uM_ne (by decide), mMv_1 (by decide), uM_self]
      · exact nFail (hF := ⟨k, hk, rfl, Or.inr h78⟩) (E := 2) (e := 2) (v := 0) hJ (by simp only [d_133_0, h1 s rfl, bR, ntg_self, nn_some, e0, h4, if_false, o1 s rfl, bI, n10, d_133_28, d_133_29, c84_0, bV, hE]) (fun z => by simp only [d_231_0, h2 (s.1, s.2.1, z) rfl, bI, n10, if_false, hin, en, h4, o2 (s.1, s.2.1, z) rfl, if_true, d_231_33, d_231_38, r172_2]) rfl n20
end OPS
end KAP
